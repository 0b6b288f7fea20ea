/-! ties: tells -/
def tlV (R N i j : Int) (f : Int → Int) : Nat → Int → Int
  | 0, _ => -1
  | k + 1, l => if l < bxC R N ∧ f l = OFC R N i j l then tlV R N i j f k (l + 1) else l
def tlOk (R N s i j : Int) : Prop := (0 ≤ s ∧ s ≤ 3) ∧ (0 ≤ i ∧ i < bxC R N) ∧ (0 ≤ j ∧ j < bxC R N)
section SP
variable {t d : Nat} {R N : Int} {Q : Option hkV → Nat → hkG → Prop}
theorem l_tells {g : hkG} (ht : 190 ≤ t) {s i j n : Int} {f : Int → Int} (hv : tlOk R N s i j) (hn : g (58 + 2 * s) 1 = n) (hn40 : n ≤ 40) (hf : ∀ k : Int, 0 ≤ k → k < n → g (59 + 2 * s) k = f k) : ∀ (k : Nat) (l : Int) (g1 : hkG), l + k = n → 0 ≤ l → qKeep g g1 → RB g1 R N → (∀ g' : hkG, qKeep g g' → RB g' R N → Q (some (0, tlV R N i j f k l)) t g') →
    Xp 24 (d + 12) 54 [(2, 0), (0, s), (0, i), (0, j), (2, 58 + 2 * s), (0, l)] [] t g1 Q := by
  obtain ⟨⟨s0, s3⟩, ⟨i0, i1⟩, ⟨j0, j1⟩⟩ := id hv
  obtain ⟨a1, a2, a3, a4, a5, a6, a7⟩ := sh_f ht s0 s3
  intro k
  induction k with
  | zero =>
    intro l g1 hl l0 k1 hb hQ
    have hq := hQ g1 k1 hb
    have hn1 : g1 (58 + 2 * s) 1 = n := by rw [k1.1 _ (by unfold scr; omega)]; exact hn
    rw [x_24_54]
    simp only [x_24_56, x_24_58, x_24_61, hkJK_0, hkJK_1, hkJK_12, hkJK_57, jA_0_0, jA_0_12, jA_0_2, jL_57, jR_0_0, jR_0_12, jR_0_2, hkP1_0, hkP1_2, hkP1_u, hkC8, List.map_cons, List.map_nil, List.sum_cons, List.sum_nil, hkCat_0, hkCat_1, hkCat_2, Nat.reduceAdd, Nat.reduceLeDiff, hkPush_s, hkPush_n, true_and, and_true, implies_true, true_implies, not_true_eq_false, not_false_eq_true, false_implies, hkTf_0, hkTf_n1, hkOr01, hkOr11, Int.reduceEq, Int.reduceLT, Int.reduceLE, hk102a, hk102b, hk102c, Nat.reduceEqDiff, or_true, true_or, or_false, false_or, and_false, false_and, Classical.not_not, true_implies, List.set_cons_zero, List.set_cons_succ, ne_eq, x_24_107, x_24_108, hkJK_0, hkJK_1, hkJK_12, hkJK_57, jA_0_0, jA_0_12, jA_0_2, jL_57, jR_0_0, jR_0_12, jR_0_2, hkP1_0, hkP1_2, hkP1_u, hkC8, List.map_cons, List.map_nil, List.sum_cons, List.sum_nil, hkCat_0, hkCat_1, hkCat_2, Nat.reduceAdd, Nat.reduceLeDiff, hkPush_s, hkPush_n, true_and, and_true, implies_true, true_implies, not_true_eq_false, not_false_eq_true, false_implies, hkTf_0, hkTf_n1, hkOr01, hkOr11, Int.reduceEq, Int.reduceLT, Int.reduceLE, hk102a, hk102b, hk102c, Nat.reduceEqDiff, or_true, true_or, or_false, false_or, and_false, false_and, Classical.not_not, true_implies, List.set_cons_zero, List.set_cons_succ, ne_eq, a3, hn1]
    repeat' (first | exact hq | refine And.intro ?_ ?_ | intro _ | trivial | omega | (exfalso; omega))
  | succ k ih =>
    intro l g1 hl l0 k1 hb hQ
    have hc := bx_C hb.1.1
    have hn1 : g1 (58 + 2 * s) 1 = n := by rw [k1.1 _ (by unfold scr; omega)]; exact hn
    have hf1 : g1 (59 + 2 * s) l = f l := by rw [k1.1 _ (by unfold scr; omega)]; exact hf l l0 (by omega)
    unfold tlV at hQ
    by_cases hlc : l < bxC R N
    · have K : Xp 24 (d + 12) 76 [(2, 0), (0, s), (0, i), (0, j), (2, 58 + 2 * s), (0, l)] [] t g1 Q := by
        simp only [x_24_76, x_24_78, x_24_81, x_24_83, x_24_84, x_24_85, x_24_88, x_24_89, x_24_90, x_24_92, hkJK_0, hkJK_1, hkJK_12, hkJK_57, jA_0_0, jA_0_12, jA_0_2, jL_57, jR_0_0, jR_0_12, jR_0_2, hkP1_0, hkP1_2, hkP1_u, hkC8, List.map_cons, List.map_nil, List.sum_cons, List.sum_nil, hkCat_0, hkCat_1, hkCat_2, Nat.reduceAdd, Nat.reduceLeDiff, hkPush_s, hkPush_n, true_and, and_true, implies_true, true_implies, not_true_eq_false, not_false_eq_true, false_implies, hkTf_0, hkTf_n1, hkOr01, hkOr11, Int.reduceEq, Int.reduceLT, Int.reduceLE, hk102a, hk102b, hk102c, Nat.reduceEqDiff, or_true, true_or, or_false, false_or, and_false, false_and, Classical.not_not, true_implies, List.set_cons_zero, List.set_cons_succ, ne_eq, hkLe_t ht, a3, a4, a5, a6, a7, hf1]
        refine And.intro (by omega) ?_
        refine r_often ht hb i0 i1 j0 j1 l0 hlc (fun g2 k2 hb2 => ?_)
        have hw : hkW (l + 1) = l + 1 := hkW_in (by omega) (by omega)
        simp only [x_24_95, x_24_98, x_24_100, x_24_101, x_24_104, hkJK_0, hkJK_1, hkJK_12, hkJK_57, jA_0_0, jA_0_12, jA_0_2, jL_57, jR_0_0, jR_0_12, jR_0_2, hkP1_0, hkP1_2, hkP1_u, hkC8, List.map_cons, List.map_nil, List.sum_cons, List.sum_nil, hkCat_0, hkCat_1, hkCat_2, Nat.reduceAdd, Nat.reduceLeDiff, hkPush_s, hkPush_n, true_and, and_true, implies_true, true_implies, not_true_eq_false, not_false_eq_true, false_implies, hkTf_0, hkTf_n1, hkOr01, hkOr11, Int.reduceEq, Int.reduceLT, Int.reduceLE, hk102a, hk102b, hk102c, Nat.reduceEqDiff, or_true, true_or, or_false, false_or, and_false, false_and, Classical.not_not, true_implies, List.set_cons_zero, List.set_cons_succ, ne_eq, hw]
        clear hw
        refine And.intro (fun h => ?_) (fun h => ?_)
        · have e : l < bxC R N ∧ f l = OFC R N i j l := ⟨hlc, h⟩
          rw [if_pos e] at hQ
          exact ih (l + 1) g2 (by omega) (by omega) (qKeep_t k1 k2) hb2 hQ
        · have e : ¬ (l < bxC R N ∧ f l = OFC R N i j l) := fun h2 => h h2.2
          rw [if_neg e] at hQ
          exact hQ g2 (qKeep_t k1 k2) hb2
      rw [x_24_54]
      simp only [x_24_56, x_24_58, x_24_61, x_24_64, x_24_65, x_24_68, x_24_70, x_24_73, hkJK_0, hkJK_1, hkJK_12, hkJK_57, jA_0_0, jA_0_12, jA_0_2, jL_57, jR_0_0, jR_0_12, jR_0_2, hkP1_0, hkP1_2, hkP1_u, hkC8, List.map_cons, List.map_nil, List.sum_cons, List.sum_nil, hkCat_0, hkCat_1, hkCat_2, Nat.reduceAdd, Nat.reduceLeDiff, hkPush_s, hkPush_n, true_and, and_true, implies_true, true_implies, not_true_eq_false, not_false_eq_true, false_implies, hkTf_0, hkTf_n1, hkOr01, hkOr11, Int.reduceEq, Int.reduceLT, Int.reduceLE, hk102a, hk102b, hk102c, Nat.reduceEqDiff, or_true, true_or, or_false, false_or, and_false, false_and, Classical.not_not, true_implies, List.set_cons_zero, List.set_cons_succ, ne_eq, hkLe_t ht, a3, hn1, sx_isShape ht hb.1]
      repeat' (first | exact K | refine And.intro ?_ ?_ | intro _ | trivial | omega | (exfalso; omega))
    · have e : ¬ (l < bxC R N ∧ f l = OFC R N i j l) := fun h2 => hlc h2.1
      rw [if_neg e] at hQ
      have hq := hQ g1 k1 hb
      rw [x_24_54]
      simp only [x_24_56, x_24_58, x_24_61, x_24_64, x_24_65, x_24_68, x_24_70, x_24_73, hkJK_0, hkJK_1, hkJK_12, hkJK_57, jA_0_0, jA_0_12, jA_0_2, jL_57, jR_0_0, jR_0_12, jR_0_2, hkP1_0, hkP1_2, hkP1_u, hkC8, List.map_cons, List.map_nil, List.sum_cons, List.sum_nil, hkCat_0, hkCat_1, hkCat_2, Nat.reduceAdd, Nat.reduceLeDiff, hkPush_s, hkPush_n, true_and, and_true, implies_true, true_implies, not_true_eq_false, not_false_eq_true, false_implies, hkTf_0, hkTf_n1, hkOr01, hkOr11, Int.reduceEq, Int.reduceLT, Int.reduceLE, hk102a, hk102b, hk102c, Nat.reduceEqDiff, or_true, true_or, or_false, false_or, and_false, false_and, Classical.not_not, true_implies, List.set_cons_zero, List.set_cons_succ, ne_eq, x_24_98, x_24_100, hkJK_0, hkJK_1, hkJK_12, hkJK_57, jA_0_0, jA_0_12, jA_0_2, jL_57, jR_0_0, jR_0_12, jR_0_2, hkP1_0, hkP1_2, hkP1_u, hkC8, List.map_cons, List.map_nil, List.sum_cons, List.sum_nil, hkCat_0, hkCat_1, hkCat_2, Nat.reduceAdd, Nat.reduceLeDiff, hkPush_s, hkPush_n, true_and, and_true, implies_true, true_implies, not_true_eq_false, not_false_eq_true, false_implies, hkTf_0, hkTf_n1, hkOr01, hkOr11, Int.reduceEq, Int.reduceLT, Int.reduceLE, hk102a, hk102b, hk102c, Nat.reduceEqDiff, or_true, true_or, or_false, false_or, and_false, false_and, Classical.not_not, true_implies, List.set_cons_zero, List.set_cons_succ, ne_eq, hkLe_t ht, a3, hn1, sx_isShape ht hb.1]
      repeat' (first | exact hq | refine And.intro ?_ ?_ | intro _ | trivial | omega | (exfalso; omega))
theorem l_mtells {g : hkG} (ht : 190 ≤ t) {s i j n : Int} {f : Int → Int} (hv : tlOk R N s i j) (hn : g 88 s = n) (hn40 : n ≤ 40) (hf : ∀ k : Int, 0 ≤ k → k < n → g 89 (40 * s + k) = f k) : ∀ (k : Nat) (l : Int) (g1 : hkG), l + k = n → 0 ≤ l → qKeep g g1 → RB g1 R N → (∀ g' : hkG, qKeep g g' → RB g' R N → Q (some (0, tlV R N i j f k l)) t g') →
    Xp 163 (d + 12) 42 [(2, 66), (0, s), (0, i), (0, j), (0, l)] [] t g1 Q := by
  obtain ⟨⟨s0, s3⟩, ⟨i0, i1⟩, ⟨j0, j1⟩⟩ := id hv
  intro k
  induction k with
  | zero =>
    intro l g1 hl l0 k1 hb hQ
    have hq := hQ g1 k1 hb
    have hn1 : g1 88 s = n := by rw [k1.1 _ (by unfold scr; omega)]; exact hn
    rw [x_163_42]
    simp only [x_163_44, x_163_45, x_163_48, x_163_49, x_163_50, hkJK_66, hkJK_87, hkJK_88, hkJK_89, jA_66_36, jA_66_37, jA_66_38, jL_87, jL_88, jL_89, jR_66_36, jR_66_37, jR_66_38, hkP1_0, hkP1_2, hkP1_u, hkC8, List.map_cons, List.map_nil, List.sum_cons, List.sum_nil, hkCat_0, hkCat_1, hkCat_2, Nat.reduceAdd, Nat.reduceLeDiff, hkPush_s, hkPush_n, true_and, and_true, implies_true, true_implies, not_true_eq_false, not_false_eq_true, false_implies, hkTf_0, hkTf_n1, hkOr01, hkOr11, Int.reduceEq, Int.reduceLT, Int.reduceLE, hk102a, hk102b, hk102c, Nat.reduceEqDiff, or_true, true_or, or_false, false_or, and_false, false_and, Classical.not_not, true_implies, List.set_cons_zero, List.set_cons_succ, ne_eq, x_163_94, x_163_95, hkJK_66, hkJK_87, hkJK_88, hkJK_89, jA_66_36, jA_66_37, jA_66_38, jL_87, jL_88, jL_89, jR_66_36, jR_66_37, jR_66_38, hkP1_0, hkP1_2, hkP1_u, hkC8, List.map_cons, List.map_nil, List.sum_cons, List.sum_nil, hkCat_0, hkCat_1, hkCat_2, Nat.reduceAdd, Nat.reduceLeDiff, hkPush_s, hkPush_n, true_and, and_true, implies_true, true_implies, not_true_eq_false, not_false_eq_true, false_implies, hkTf_0, hkTf_n1, hkOr01, hkOr11, Int.reduceEq, Int.reduceLT, Int.reduceLE, hk102a, hk102b, hk102c, Nat.reduceEqDiff, or_true, true_or, or_false, false_or, and_false, false_and, Classical.not_not, true_implies, List.set_cons_zero, List.set_cons_succ, ne_eq, hkLe_t ht, hn1]
    repeat' (first | exact hq | refine And.intro ?_ ?_ | intro _ | trivial | omega | (exfalso; omega))
  | succ k ih =>
    intro l g1 hl l0 k1 hb hQ
    have hc := bx_C hb.1.1
    have hn1 : g1 88 s = n := by rw [k1.1 _ (by unfold scr; omega)]; exact hn
    have hf1 : g1 89 (40 * s + l) = f l := by rw [k1.1 _ (by unfold scr; omega)]; exact hf l l0 (by omega)
    unfold tlV at hQ
    by_cases hlc : l < bxC R N
    · have K : Xp 163 (d + 12) 62 [(2, 66), (0, s), (0, i), (0, j), (0, l)] [] t g1 Q := by
        obtain ⟨e1, e2⟩ : hkW (40 * s) = 40 * s ∧ hkW (40 * s + l) = 40 * s + l := ⟨hkW_in (by omega) (by omega), hkW_in (by omega) (by omega)⟩
        simp only [x_163_62, x_163_63, x_163_66, x_163_68, x_163_69, x_163_70, x_163_72, x_163_73, x_163_74, x_163_75, x_163_76, x_163_77, x_163_79, hkJK_66, hkJK_87, hkJK_88, hkJK_89, jA_66_36, jA_66_37, jA_66_38, jL_87, jL_88, jL_89, jR_66_36, jR_66_37, jR_66_38, hkP1_0, hkP1_2, hkP1_u, hkC8, List.map_cons, List.map_nil, List.sum_cons, List.sum_nil, hkCat_0, hkCat_1, hkCat_2, Nat.reduceAdd, Nat.reduceLeDiff, hkPush_s, hkPush_n, true_and, and_true, implies_true, true_implies, not_true_eq_false, not_false_eq_true, false_implies, hkTf_0, hkTf_n1, hkOr01, hkOr11, Int.reduceEq, Int.reduceLT, Int.reduceLE, hk102a, hk102b, hk102c, Nat.reduceEqDiff, or_true, true_or, or_false, false_or, and_false, false_and, Classical.not_not, true_implies, List.set_cons_zero, List.set_cons_succ, ne_eq, hkLe_t ht, hf1, e1, e2]
        clear e1 e2
        refine And.intro (by omega) ?_
        refine r_moften ht hb i0 i1 j0 j1 l0 hlc (fun g2 k2 hb2 => ?_)
        have hw : hkW (l + 1) = l + 1 := hkW_in (by omega) (by omega)
        simp only [x_163_82, x_163_85, x_163_87, x_163_88, x_163_91, hkJK_66, hkJK_87, hkJK_88, hkJK_89, jA_66_36, jA_66_37, jA_66_38, jL_87, jL_88, jL_89, jR_66_36, jR_66_37, jR_66_38, hkP1_0, hkP1_2, hkP1_u, hkC8, List.map_cons, List.map_nil, List.sum_cons, List.sum_nil, hkCat_0, hkCat_1, hkCat_2, Nat.reduceAdd, Nat.reduceLeDiff, hkPush_s, hkPush_n, true_and, and_true, implies_true, true_implies, not_true_eq_false, not_false_eq_true, false_implies, hkTf_0, hkTf_n1, hkOr01, hkOr11, Int.reduceEq, Int.reduceLT, Int.reduceLE, hk102a, hk102b, hk102c, Nat.reduceEqDiff, or_true, true_or, or_false, false_or, and_false, false_and, Classical.not_not, true_implies, List.set_cons_zero, List.set_cons_succ, ne_eq, hw]
        clear hw
        refine And.intro (fun h => ?_) (fun h => ?_)
        · have e : l < bxC R N ∧ f l = OFC R N i j l := ⟨hlc, h⟩
          rw [if_pos e] at hQ
          exact ih (l + 1) g2 (by omega) (by omega) (qKeep_t k1 k2) hb2 hQ
        · have e : ¬ (l < bxC R N ∧ f l = OFC R N i j l) := fun h2 => h h2.2
          rw [if_neg e] at hQ
          exact hQ g2 (qKeep_t k1 k2) hb2
      rw [x_163_42]
      simp only [x_163_44, x_163_45, x_163_48, x_163_49, x_163_50, x_163_53, x_163_54, x_163_56, x_163_59, hkJK_66, hkJK_87, hkJK_88, hkJK_89, jA_66_36, jA_66_37, jA_66_38, jL_87, jL_88, jL_89, jR_66_36, jR_66_37, jR_66_38, hkP1_0, hkP1_2, hkP1_u, hkC8, List.map_cons, List.map_nil, List.sum_cons, List.sum_nil, hkCat_0, hkCat_1, hkCat_2, Nat.reduceAdd, Nat.reduceLeDiff, hkPush_s, hkPush_n, true_and, and_true, implies_true, true_implies, not_true_eq_false, not_false_eq_true, false_implies, hkTf_0, hkTf_n1, hkOr01, hkOr11, Int.reduceEq, Int.reduceLT, Int.reduceLE, hk102a, hk102b, hk102c, Nat.reduceEqDiff, or_true, true_or, or_false, false_or, and_false, false_and, Classical.not_not, true_implies, List.set_cons_zero, List.set_cons_succ, ne_eq, hkLe_t ht, hn1, sx_mIsShape ht hb.2.2.2.2.1]
      repeat' (first | exact K | refine And.intro ?_ ?_ | intro _ | trivial | omega | (exfalso; omega))
    · have e : ¬ (l < bxC R N ∧ f l = OFC R N i j l) := fun h2 => hlc h2.1
      rw [if_neg e] at hQ
      have hq := hQ g1 k1 hb
      rw [x_163_42]
      simp only [x_163_44, x_163_45, x_163_48, x_163_49, x_163_50, x_163_53, x_163_54, x_163_56, x_163_59, hkJK_66, hkJK_87, hkJK_88, hkJK_89, jA_66_36, jA_66_37, jA_66_38, jL_87, jL_88, jL_89, jR_66_36, jR_66_37, jR_66_38, hkP1_0, hkP1_2, hkP1_u, hkC8, List.map_cons, List.map_nil, List.sum_cons, List.sum_nil, hkCat_0, hkCat_1, hkCat_2, Nat.reduceAdd, Nat.reduceLeDiff, hkPush_s, hkPush_n, true_and, and_true, implies_true, true_implies, not_true_eq_false, not_false_eq_true, false_implies, hkTf_0, hkTf_n1, hkOr01, hkOr11, Int.reduceEq, Int.reduceLT, Int.reduceLE, hk102a, hk102b, hk102c, Nat.reduceEqDiff, or_true, true_or, or_false, false_or, and_false, false_and, Classical.not_not, true_implies, List.set_cons_zero, List.set_cons_succ, ne_eq, x_163_85, x_163_87, hkJK_66, hkJK_87, hkJK_88, hkJK_89, jA_66_36, jA_66_37, jA_66_38, jL_87, jL_88, jL_89, jR_66_36, jR_66_37, jR_66_38, hkP1_0, hkP1_2, hkP1_u, hkC8, List.map_cons, List.map_nil, List.sum_cons, List.sum_nil, hkCat_0, hkCat_1, hkCat_2, Nat.reduceAdd, Nat.reduceLeDiff, hkPush_s, hkPush_n, true_and, and_true, implies_true, true_implies, not_true_eq_false, not_false_eq_true, false_implies, hkTf_0, hkTf_n1, hkOr01, hkOr11, Int.reduceEq, Int.reduceLT, Int.reduceLE, hk102a, hk102b, hk102c, Nat.reduceEqDiff, or_true, true_or, or_false, false_or, and_false, false_and, Classical.not_not, true_implies, List.set_cons_zero, List.set_cons_succ, ne_eq, hkLe_t ht, hn1, sx_mIsShape ht hb.2.2.2.2.1]
      repeat' (first | exact hq | refine And.intro ?_ ?_ | intro _ | trivial | omega | (exfalso; omega))
theorem tie_tells {g : hkG} {xs : Int → Int} {L s i j : Int} (ht : 190 ≤ t) (hR : Rel xs L g) : Tie xs L 24 (d + 12) [(2, 0), (0, s), (0, i), (0, j), hkU, hkU] 163 [(2, 66), (0, s), (0, i), (0, j), hkU] t g := by
  obtain ⟨R, N, hb, hr⟩ := id hR
  by_cases hv : tlOk R N s i j
  · obtain ⟨⟨s0, s3⟩, ⟨i0, i1⟩, ⟨j0, j1⟩⟩ := id hv
    obtain ⟨a1, a2, a3, a4, a5, a6, a7⟩ := sh_f ht s0 s3
    obtain ⟨c1, c2, c3, c4, c5, c6⟩ := hr.2.2.2.1 s s0 (by omega)
    have C : ∀ Q : Option hkV → Nat → hkG → Prop, Xp 24 (d + 12) 40 [(2, 0), (0, s), (0, i), (0, j), (2, 58 + 2 * s), hkU] [] t g Q → Xp 24 (d + 12) 0 [(2, 0), (0, s), (0, i), (0, j), hkU, hkU] [] t g Q := by
      intro Q hq
      simp only [x_24_0, x_24_1, x_24_4, x_24_7, x_24_8, x_24_11, x_24_12, x_24_15, x_24_18, x_24_19, x_24_22, x_24_23, x_24_26, x_24_29, x_24_31, x_24_32, x_24_33, x_24_36, x_24_37, x_24_38, hkJK_0, hkJK_1, hkJK_12, hkJK_57, jA_0_0, jA_0_12, jA_0_2, jL_57, jR_0_0, jR_0_12, jR_0_2, hkP1_0, hkP1_2, hkP1_u, hkC8, List.map_cons, List.map_nil, List.sum_cons, List.sum_nil, hkCat_0, hkCat_1, hkCat_2, Nat.reduceAdd, Nat.reduceLeDiff, hkPush_s, hkPush_n, true_and, and_true, implies_true, true_implies, not_true_eq_false, not_false_eq_true, false_implies, hkTf_0, hkTf_n1, hkOr01, hkOr11, Int.reduceEq, Int.reduceLT, Int.reduceLE, hk102a, hk102b, hk102c, Nat.reduceEqDiff, or_true, true_or, or_false, false_or, and_false, false_and, Classical.not_not, true_implies, List.set_cons_zero, List.set_cons_succ, ne_eq, hkLe_t ht, sx_isNoSheet, sx_isShape ht hb.1, hkJK_57, jL_57, a1, a2]
      repeat' (first | exact hq | refine And.intro ?_ ?_ | intro _ | trivial | omega | (exfalso; omega))
    have M0 : ∀ (g : hkG), RB g R N → ∀ (Q : Option hkV → Nat → hkG → Prop), Xp 163 (d + 12) 26 [(2, 66), (0, s), (0, i), (0, j), hkU] [] t g Q → Xp 163 (d + 12) 0 [(2, 66), (0, s), (0, i), (0, j), hkU] [] t g Q := by
      intro g hb Q hq
      simp only [x_163_0, x_163_1, x_163_4, x_163_7, x_163_8, x_163_9, x_163_12, x_163_15, x_163_16, x_163_17, x_163_20, x_163_23, x_163_25, hkJK_66, hkJK_87, hkJK_88, hkJK_89, jA_66_36, jA_66_37, jA_66_38, jL_87, jL_88, jL_89, jR_66_36, jR_66_37, jR_66_38, hkP1_0, hkP1_2, hkP1_u, hkC8, List.map_cons, List.map_nil, List.sum_cons, List.sum_nil, hkCat_0, hkCat_1, hkCat_2, Nat.reduceAdd, Nat.reduceLeDiff, hkPush_s, hkPush_n, true_and, and_true, implies_true, true_implies, not_true_eq_false, not_false_eq_true, false_implies, hkTf_0, hkTf_n1, hkOr01, hkOr11, Int.reduceEq, Int.reduceLT, Int.reduceLE, hk102a, hk102b, hk102c, Nat.reduceEqDiff, or_true, true_or, or_false, false_or, and_false, false_and, Classical.not_not, true_implies, List.set_cons_zero, List.set_cons_succ, ne_eq, sx_mIsSheet, sx_mIsShape ht hb.2.2.2.2.1]
      repeat' (first | exact hq | refine And.intro ?_ ?_ | intro _ | trivial | omega | (exfalso; omega))
    by_cases hm : g 87 s = -1
    · refine tie_still (v := (0, -11)) hR (fun Q hq => C Q ?_) (fun Q hq => M0 g hb Q ?_)
      · simp only [x_24_40, x_24_42, x_24_45, x_24_48, x_24_50, hkJK_0, hkJK_1, hkJK_12, hkJK_57, jA_0_0, jA_0_12, jA_0_2, jL_57, jR_0_0, jR_0_12, jR_0_2, hkP1_0, hkP1_2, hkP1_u, hkC8, List.map_cons, List.map_nil, List.sum_cons, List.sum_nil, hkCat_0, hkCat_1, hkCat_2, Nat.reduceAdd, Nat.reduceLeDiff, hkPush_s, hkPush_n, true_and, and_true, implies_true, true_implies, not_true_eq_false, not_false_eq_true, false_implies, hkTf_0, hkTf_n1, hkOr01, hkOr11, Int.reduceEq, Int.reduceLT, Int.reduceLE, hk102a, hk102b, hk102c, Nat.reduceEqDiff, or_true, true_or, or_false, false_or, and_false, false_and, Classical.not_not, true_implies, List.set_cons_zero, List.set_cons_succ, ne_eq, sx_isMissing a3, c1]
        repeat' (first | exact hq | refine And.intro ?_ ?_ | intro _ | trivial | omega | (exfalso; omega))
      · simp only [x_163_26, x_163_27, x_163_30, x_163_31, x_163_32, x_163_33, x_163_36, x_163_38, hkJK_66, hkJK_87, hkJK_88, hkJK_89, jA_66_36, jA_66_37, jA_66_38, jL_87, jL_88, jL_89, jR_66_36, jR_66_37, jR_66_38, hkP1_0, hkP1_2, hkP1_u, hkC8, List.map_cons, List.map_nil, List.sum_cons, List.sum_nil, hkCat_0, hkCat_1, hkCat_2, Nat.reduceAdd, Nat.reduceLeDiff, hkPush_s, hkPush_n, true_and, and_true, implies_true, true_implies, not_true_eq_false, not_false_eq_true, false_implies, hkTf_0, hkTf_n1, hkOr01, hkOr11, Int.reduceEq, Int.reduceLT, Int.reduceLE, hk102a, hk102b, hk102c, Nat.reduceEqDiff, or_true, true_or, or_false, false_or, and_false, false_and, Classical.not_not, true_implies, List.set_cons_zero, List.set_cons_succ, ne_eq, hkLe_t ht]
        repeat' (first | exact hq | refine And.intro ?_ ?_ | intro _ | trivial | omega | (exfalso; omega))
    · refine C _ ?_
      have K := l_tells (d := d) (g := g) (t := t) (R := R) (N := N) (s := s) (i := i) (j := j) (n := g 88 s) (f := fun k => g 89 (40 * s + k)) (Q := fun r t1 g1 => ∃ v, r = some v ∧ t1 = t ∧ Xp 163 (d + 12) 0 [(2, 66), (0, s), (0, i), (0, j), hkU] [] t g1 (fun r2 t2 g2 => r2 = some v ∧ t2 = t ∧ Rel xs L g2)) ht hv c2 c5 c6 (g 88 s).toNat 0 g (by omega) (by decide) qKeep_r hb (fun g1 k1 hb1 => ⟨_, rfl, rfl, M0 g1 hb1 _ ?_⟩)
      · simp only [x_24_40, x_24_42, x_24_45, x_24_48, x_24_50, x_24_51, x_24_52, hkJK_0, hkJK_1, hkJK_12, hkJK_57, jA_0_0, jA_0_12, jA_0_2, jL_57, jR_0_0, jR_0_12, jR_0_2, hkP1_0, hkP1_2, hkP1_u, hkC8, List.map_cons, List.map_nil, List.sum_cons, List.sum_nil, hkCat_0, hkCat_1, hkCat_2, Nat.reduceAdd, Nat.reduceLeDiff, hkPush_s, hkPush_n, true_and, and_true, implies_true, true_implies, not_true_eq_false, not_false_eq_true, false_implies, hkTf_0, hkTf_n1, hkOr01, hkOr11, Int.reduceEq, Int.reduceLT, Int.reduceLE, hk102a, hk102b, hk102c, Nat.reduceEqDiff, or_true, true_or, or_false, false_or, and_false, false_and, Classical.not_not, true_implies, List.set_cons_zero, List.set_cons_succ, ne_eq, sx_isMissing a3, c1]
        repeat' (first | exact K | refine And.intro ?_ ?_ | intro _ | trivial | omega | (exfalso; omega))
      · have r87 : g1 87 = g 87 := k1.1 _ (by unfold scr; omega)
        have K2 := l_mtells (d := d) (g := g) (t := t) (R := R) (N := N) (s := s) (i := i) (j := j) (n := g 88 s) (f := fun k => g 89 (40 * s + k)) (Q := fun r2 t2 g2 => r2 = some (0, tlV R N i j (fun k => g 89 (40 * s + k)) (g 88 s).toNat 0) ∧ t2 = t ∧ Rel xs L g2) ht hv rfl c5 (fun k _ _ => rfl) (g 88 s).toNat 0 g1 (by omega) (by decide) k1 hb1 (fun g2 k2 hb2 => ⟨rfl, rfl, Rel_q hb2 k2 hr⟩)
        simp only [x_163_26, x_163_27, x_163_30, x_163_31, x_163_32, x_163_33, x_163_36, x_163_38, x_163_39, x_163_40, hkJK_66, hkJK_87, hkJK_88, hkJK_89, jA_66_36, jA_66_37, jA_66_38, jL_87, jL_88, jL_89, jR_66_36, jR_66_37, jR_66_38, hkP1_0, hkP1_2, hkP1_u, hkC8, List.map_cons, List.map_nil, List.sum_cons, List.sum_nil, hkCat_0, hkCat_1, hkCat_2, Nat.reduceAdd, Nat.reduceLeDiff, hkPush_s, hkPush_n, true_and, and_true, implies_true, true_implies, not_true_eq_false, not_false_eq_true, false_implies, hkTf_0, hkTf_n1, hkOr01, hkOr11, Int.reduceEq, Int.reduceLT, Int.reduceLE, hk102a, hk102b, hk102c, Nat.reduceEqDiff, or_true, true_or, or_false, false_or, and_false, false_and, Classical.not_not, true_implies, List.set_cons_zero, List.set_cons_succ, ne_eq, hkLe_t ht, r87]
        repeat' (first | exact K2 | refine And.intro ?_ ?_ | intro _ | trivial | omega | (exfalso; omega))
  · refine tie_still (v := (0, -2)) hR (fun Q hq => ?_) (fun Q hq => ?_)
    · unfold tlOk at hv
      simp only [x_24_0, x_24_1, x_24_4, x_24_7, x_24_8, x_24_11, x_24_12, x_24_15, x_24_18, x_24_19, x_24_22, x_24_23, x_24_26, x_24_29, x_24_31, hkJK_0, hkJK_1, hkJK_12, hkJK_57, jA_0_0, jA_0_12, jA_0_2, jL_57, jR_0_0, jR_0_12, jR_0_2, hkP1_0, hkP1_2, hkP1_u, hkC8, List.map_cons, List.map_nil, List.sum_cons, List.sum_nil, hkCat_0, hkCat_1, hkCat_2, Nat.reduceAdd, Nat.reduceLeDiff, hkPush_s, hkPush_n, true_and, and_true, implies_true, true_implies, not_true_eq_false, not_false_eq_true, false_implies, hkTf_0, hkTf_n1, hkOr01, hkOr11, Int.reduceEq, Int.reduceLT, Int.reduceLE, hk102a, hk102b, hk102c, Nat.reduceEqDiff, or_true, true_or, or_false, false_or, and_false, false_and, Classical.not_not, true_implies, List.set_cons_zero, List.set_cons_succ, ne_eq, hkLe_t ht, sx_isNoSheet, sx_isShape ht hb.1]
      repeat' (first | exact hq | refine And.intro ?_ ?_ | intro _ | trivial | omega | (exfalso; omega))
    · unfold tlOk at hv
      simp only [x_163_0, x_163_1, x_163_4, x_163_7, x_163_8, x_163_9, x_163_12, x_163_15, x_163_16, x_163_17, x_163_20, x_163_23, x_163_25, hkJK_66, hkJK_87, hkJK_88, hkJK_89, jA_66_36, jA_66_37, jA_66_38, jL_87, jL_88, jL_89, jR_66_36, jR_66_37, jR_66_38, hkP1_0, hkP1_2, hkP1_u, hkC8, List.map_cons, List.map_nil, List.sum_cons, List.sum_nil, hkCat_0, hkCat_1, hkCat_2, Nat.reduceAdd, Nat.reduceLeDiff, hkPush_s, hkPush_n, true_and, and_true, implies_true, true_implies, not_true_eq_false, not_false_eq_true, false_implies, hkTf_0, hkTf_n1, hkOr01, hkOr11, Int.reduceEq, Int.reduceLT, Int.reduceLE, hk102a, hk102b, hk102c, Nat.reduceEqDiff, or_true, true_or, or_false, false_or, and_false, false_and, Classical.not_not, true_implies, List.set_cons_zero, List.set_cons_succ, ne_eq, sx_mIsSheet, sx_mIsShape ht hb.2.2.2.2.1]
      repeat' (first | exact hq | refine And.intro ?_ ?_ | intro _ | trivial | omega | (exfalso; omega))
end SP
