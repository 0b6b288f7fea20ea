/-! Products: the place of a product in the table, filled when it's first asked for -/
section SP
variable {t d : Nat} {R N : Int}
def tbKeep (g g' : hkG) : Prop := ∀ p : Int, p ≠ 14 → p ≠ 15 → g' p = g p
def TBI (g : hkG) (R N : Int) : Prop := ∀ i j : Int, 0 ≤ i → i < bxC R N → 0 ≤ j → j < bxC R N → g 14 ((35 * i + j) * 5) = -2147483648 ∨ ∀ s : Int, 0 ≤ s → s < 5 → g 14 ((35 * i + j) * 5 + s) = OFS R N i j s ∧ -256000 ≤ OFS R N i j s ∧ OFS R N i j s ≤ 256000
theorem pow54 {F : Int} (h0 : 0 ≤ F) (h4 : F ≤ 4) : (1 : Int) * 5 ^ F.toNat ≤ 1000 ∧ (0 : Int) + 1000 * 4 ^ F.toNat ≤ 256000 := by
  have : F.toNat = 0 ∨ F.toNat = 1 ∨ F.toNat = 2 ∨ F.toNat = 3 ∨ F.toNat = 4 := by omega
  rcases this with h | h | h | h | h <;> rw [h] <;> decide
theorem sx_placeOf {g : hkG} {Q : Option hkV → Nat → hkG → Prop} (ht : 35 ≤ t) (hX : BX g R N) (hP : PST g R N) (hT : TBI g R N) {i j : Int} (hi0 : 0 ≤ i) (hi : i < bxC R N) (hj0 : 0 ≤ j) (hj : j < bxC R N)
    (hQ : ∀ g' : hkG, tbKeep g g' → TBI g' R N → (∀ s : Int, 0 ≤ s → s < 5 → g' 14 ((35 * i + j) * 5 + s) = OFS R N i j s ∧ -256000 ≤ OFS R N i j s ∧ OFS R N i j s ≤ 256000) → Q (some (0, (35 * i + j) * 5)) t g') :
    Xp 54 (d + 8) 0 [(2, 12), (0, i), (0, j), hkU] [] t g Q := by
  have hb := hX.1
  obtain ⟨b1, b2, b3, b4⟩ := id hb
  obtain ⟨c1, c2⟩ := bx_C hb
  obtain ⟨f1, f2, f3⟩ := bx_F hb hj0 hj
  obtain ⟨x1, x2, x3, x4, x5, x6, x7, x8⟩ := BX_f hX
  obtain ⟨s1, s2, s3, s4, s5, s6⟩ := bx_sh hb hi0 hi
  obtain ⟨y1, y2, y3, y4⟩ := x6 i hi0 hi
  have hS0 : 0 ≤ bxSl R N i := (bxCq_0 _).1
  have hz : 0 ≤ bxZ R N i := by
    have := (s1 0 (by decide) (by decide)).1
    have := (s1 1 (by decide) (by decide)).1
    have := (s1 2 (by decide) (by decide)).1
    have := (s1 3 (by decide) (by decide)).1
    omega
  have hq0 : 0 ≤ bxQ R N i := Int.emod_nonneg _ (by omega)
  have hq1 : bxQ R N i < N := Int.emod_lt_of_pos _ (by omega)
  have hrem : (bxZ R N i).tmod N = bxQ R N i := by
    unfold bxQ; exact Int.tmod_eq_emod_of_nonneg hz
  have hN0 : ¬ N = 0 := by omega
  generalize hpl : (35 * i + j) * 5 = pl at hQ
  obtain ⟨e1, e2, e3, e4⟩ : hkW (i * 35) = i * 35 ∧ hkW (i * 35 + j) = i * 35 + j ∧ hkW ((i * 35 + j) * 5) = pl ∧ hkW (pl + 5) = pl + 5 := ⟨hkW_in (by omega) (by omega), hkW_in (by omega) (by omega), by rw [hkW_in (by omega) (by omega)]; omega, hkW_in (by omega) (by omega)⟩
  simp only [x_54_0, x_54_1, x_54_3, x_54_4, x_54_5, x_54_6, x_54_7, x_54_8, x_54_9, x_54_10, x_54_13, x_54_14, x_54_15, x_54_17, hkJK_1, hkJK_12, hkJK_14, hkJK_15, hkJK_3, hkJK_7, jA_12_0, jA_12_3, jA_12_4, jA_1_5, jA_1_9, jL_14, jL_15, jL_3, jL_7, jR_12_0, jR_12_3, jR_12_4, jR_1_5, jR_1_9, hkP1_0, hkP1_2, hkP1_u, hkC8, List.map_cons, List.map_nil, List.sum_cons, List.sum_nil, hkCat_0, hkCat_1, hkCat_2, Nat.reduceAdd, Nat.reduceLeDiff, hkPush_s, hkPush_n, true_and, and_true, implies_true, true_implies, not_true_eq_false, not_false_eq_true, false_implies, hkTf_0, hkTf_n1, hkOr01, hkOr11, Int.reduceEq, Int.reduceLT, Int.reduceLE, hk102a, hk102b, hk102c, Nat.reduceEqDiff, or_true, true_or, or_false, false_or, and_false, false_and, Classical.not_not, true_implies, List.set_cons_zero, List.set_cons_succ, ne_eq, x_54_20, x_54_21, x_54_24, x_54_25, x_54_26, x_54_27, x_54_28, x_54_29, hkJK_1, hkJK_12, hkJK_14, hkJK_15, hkJK_3, hkJK_7, jA_12_0, jA_12_3, jA_12_4, jA_1_5, jA_1_9, jL_14, jL_15, jL_3, jL_7, jR_12_0, jR_12_3, jR_12_4, jR_1_5, jR_1_9, hkP1_0, hkP1_2, hkP1_u, hkC8, List.map_cons, List.map_nil, List.sum_cons, List.sum_nil, hkCat_0, hkCat_1, hkCat_2, Nat.reduceAdd, Nat.reduceLeDiff, hkPush_s, hkPush_n, true_and, and_true, implies_true, true_implies, not_true_eq_false, not_false_eq_true, false_implies, hkTf_0, hkTf_n1, hkOr01, hkOr11, Int.reduceEq, Int.reduceLT, Int.reduceLE, hk102a, hk102b, hk102c, Nat.reduceEqDiff, or_true, true_or, or_false, false_or, and_false, false_and, Classical.not_not, true_implies, List.set_cons_zero, List.set_cons_succ, ne_eq, x_54_83, x_54_84, hkJK_1, hkJK_12, hkJK_14, hkJK_15, hkJK_3, hkJK_7, jA_12_0, jA_12_3, jA_12_4, jA_1_5, jA_1_9, jL_14, jL_15, jL_3, jL_7, jR_12_0, jR_12_3, jR_12_4, jR_1_5, jR_1_9, hkP1_0, hkP1_2, hkP1_u, hkC8, List.map_cons, List.map_nil, List.sum_cons, List.sum_nil, hkCat_0, hkCat_1, hkCat_2, Nat.reduceAdd, Nat.reduceLeDiff, hkPush_s, hkPush_n, true_and, and_true, implies_true, true_implies, not_true_eq_false, not_false_eq_true, false_implies, hkTf_0, hkTf_n1, hkOr01, hkOr11, Int.reduceEq, Int.reduceLT, Int.reduceLE, hk102a, hk102b, hk102c, Nat.reduceEqDiff, or_true, true_or, or_false, false_or, and_false, false_and, Classical.not_not, true_implies, List.set_cons_zero, List.set_cons_succ, ne_eq, hkLe_t ht, e1, e2, e3, e4, sx_fillr hkJK_14 (show 0 ≤ pl by omega) (show pl ≤ pl + 5 by omega) (show pl + 5 ≤ jL 14 by rw [jL_14]; omega) (show jL 14 ≤ 100000 by rw [jL_14]; omega)]
  clear e1 e2 e3 e4
  refine ⟨by omega, fun h => ?_, fun h => ?_⟩
  · refine hQ g (fun _ _ _ => rfl) hT ?_
    have := hT i j hi0 hi hj0 hj
    rw [hpl] at this
    rcases this with h1 | h1
    · exact absurd h1 h
    · intro s s0 s5
      rw [(h1 s s0 s5).1]
      exact ⟨rfl, (h1 s s0 s5).2⟩
  · simp only [x_54_32, x_54_33, x_54_36, x_54_37, x_54_38, x_54_39, x_54_42, x_54_43, x_54_46, x_54_47, x_54_50, x_54_53, x_54_54, x_54_55, x_54_56, x_54_57, x_54_58, x_54_59, x_54_60, x_54_61, x_54_62, x_54_63, x_54_66, x_54_69, x_54_70, x_54_71, x_54_72, x_54_75, x_54_78, x_54_79, x_54_80, hkJK_1, hkJK_12, hkJK_14, hkJK_15, hkJK_3, hkJK_7, jA_12_0, jA_12_3, jA_12_4, jA_1_5, jA_1_9, jL_14, jL_15, jL_3, jL_7, jR_12_0, jR_12_3, jR_12_4, jR_1_5, jR_1_9, hkP1_0, hkP1_2, hkP1_u, hkC8, List.map_cons, List.map_nil, List.sum_cons, List.sum_nil, hkCat_0, hkCat_1, hkCat_2, Nat.reduceAdd, Nat.reduceLeDiff, hkPush_s, hkPush_n, true_and, and_true, implies_true, true_implies, not_true_eq_false, not_false_eq_true, false_implies, hkTf_0, hkTf_n1, hkOr01, hkOr11, Int.reduceEq, Int.reduceLT, Int.reduceLE, hk102a, hk102b, hk102c, Nat.reduceEqDiff, or_true, true_or, or_false, false_or, and_false, false_and, Classical.not_not, true_implies, List.set_cons_zero, List.set_cons_succ, ne_eq, hkLe_t ht, hkSet_rd, hkCpy_rd, hkFil_rd, if_true, if_false, Int.reduceEq, false_and, true_and, x1, x2, x8, y1, y3, hrem, sx_fillr hkJK_15 (show (0 : Int) ≤ 0 by decide) (show (0 : Int) ≤ 5 by decide) (show (5 : Int) ≤ jL 15 by rw [jL_15]; decide) (show jL 15 ≤ 100000 by rw [jL_15]; decide)]
    refine ⟨by omega, by omega, by omega, hN0, ?_⟩
    obtain ⟨D, hD⟩ : ∃ D, d + 7 = D + (bxF R N j).toNat + 3 := ⟨d + 4 - (bxF R N j).toNat, by omega⟩
    obtain ⟨q1, q2⟩ := pow54 f1 (by omega)
    rw [hD]
    generalize hg1 : hkSet (hkFil (hkFil g 14 pl (pl + 5) 0) 15 0 5 0) 15 (bxSl R N i) 1 = g1
    have r0 : ∀ p k : Int, g1 p k = if p = 15 ∧ k = bxSl R N i then 1 else if p = 15 ∧ 0 ≤ k ∧ k < 5 then 0 else if p = 14 ∧ pl ≤ k ∧ k < pl + 5 then 0 else g p k := fun p k => by rw [← hg1, hkSet_rd, hkFil_rd, hkFil_rd]
    have k1 : ∀ p : Int, p ≠ 14 → p ≠ 15 → g1 p = g p := fun p p1 p2 => by
      funext k
      rw [r0, if_neg (by omega), if_neg (by omega), if_neg (by omega)]
    have k2 : ∀ k : Int, k < pl ∨ pl + 5 ≤ k → g1 14 k = g 14 k := fun k hk => by
      rw [r0, if_neg (by omega), if_neg (by omega), if_neg (by omega)]
    have k3 : ∀ x : Int, 0 ≤ x → x < 5 → g1 14 (pl + x) = 0 := fun x x0 x1 => by
      rw [r0, if_neg (by omega), if_neg (by omega), if_pos (by omega)]
    have k4 : ∀ x : Int, 0 ≤ x → x < 5 → g1 15 x = if x = bxSl R N i then 1 else 0 := fun x x0 x1 => by
      rw [r0]
      by_cases h : x = bxSl R N i
      · rw [if_pos ⟨rfl, h⟩, if_pos h]
      · rw [if_neg (fun h2 => h h2.2), if_pos (by omega), if_neg h]
    refine l_addOrders (d := D) ht hj0 hj (by omega) (by omega) (bxF R N j).toNat 0 0 (bxQ R N i) 1 1 0 (fun x => if x = bxSl R N i then 1 else 0) g1 _ (by omega) (by decide) (by decide) hq0 hq1 (Or.inl rfl) (by decide) q1 (fun x x0 x1 => ?_) (by decide) (by omega) (BX_row hX (fun p p1 p2 => k1 p (by omega) (by omega))) (fun i' n' s' w1 w2 w3 w4 w5 w6 => by rw [k1 13 (by decide) (by decide)]; exact hP i' n' s' w1 w2 w3 w4 w5 w6) (fun x x0 x1 => by rw [show (5 : Int) * 0 + x = x from by omega, k4 x x0 x1]) (fun x x0 x1 => by rw [k3 x x0 x1]; decide) (fun g2 l1 l2 l3 l4 l5 => ?_)
    · split <;> omega
    · rw [x_54_83]
      simp only [x_54_84, hkJK_1, hkJK_12, hkJK_14, hkJK_15, hkJK_3, hkJK_7, jA_12_0, jA_12_3, jA_12_4, jA_1_5, jA_1_9, jL_14, jL_15, jL_3, jL_7, jR_12_0, jR_12_3, jR_12_4, jR_1_5, jR_1_9, hkP1_0, hkP1_2, hkP1_u, hkC8, List.map_cons, List.map_nil, List.sum_cons, List.sum_nil, hkCat_0, hkCat_1, hkCat_2, Nat.reduceAdd, Nat.reduceLeDiff, hkPush_s, hkPush_n, true_and, and_true, implies_true, true_implies, not_true_eq_false, not_false_eq_true, false_implies, hkTf_0, hkTf_n1, hkOr01, hkOr11, Int.reduceEq, Int.reduceLT, Int.reduceLE, hk102a, hk102b, hk102c, Nat.reduceEqDiff, or_true, true_or, or_false, false_or, and_false, false_and, Classical.not_not, true_implies, List.set_cons_zero, List.set_cons_succ, ne_eq]
      have hO : ∀ s : Int, 0 ≤ s → s < 5 → g2 14 (pl + s) = OFS R N i j s ∧ -256000 ≤ OFS R N i j s ∧ OFS R N i j s ≤ 256000 := fun s s0 s5 => by
        have e1 := l4 s s0 s5
        have e2 := l5 s s0 s5
        rw [k3 s s0 s5] at e1
        have e3 : g2 14 (pl + s) = OFS R N i j s := by rw [e1, Int.zero_add]; rfl
        rw [e3] at e2
        exact ⟨e3, by omega, by omega⟩
      refine hQ g2 (fun p p1 p2 => by rw [l1 p p1 p2, k1 p p1 p2]) (fun i' j' a1 a2 a3 a4 => ?_) hO
      by_cases he : i' = i ∧ j' = j
      · rw [he.1, he.2, hpl]; exact Or.inr hO
      · have hout : ∀ s : Int, 0 ≤ s → s < 5 → g2 14 ((35 * i' + j') * 5 + s) = g 14 ((35 * i' + j') * 5 + s) := fun s s0 s5 => by
          rw [l3 _ (by omega), k2 _ (by omega)]
        rcases hT i' j' a1 a2 a3 a4 with h1 | h1
        · have := hout 0 (by decide) (by decide)
          rw [Int.add_zero] at this
          exact Or.inl (by rw [this]; exact h1)
        · exact Or.inr (fun s s0 s5 => by rw [hout s s0 s5]; exact h1 s s0 s5)
end SP
