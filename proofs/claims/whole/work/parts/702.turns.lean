/-! ties: turns, around -/
def tdV (R N i j l : Int) : Int := (bxZ R N i + bxZ R N j - bxZ R N l).tdiv N
def trnV (R N i j w : Int) : Nat → Int → Int → Int → Int → Int → Int
  | 0, _, a, b, c, e => if w = 0 then a else if w = 1 then b else if w = 2 then c else e
  | k + 1, l, a, b, c, e => if OFC R N i j l = 0 then trnV R N i j w k (l + 1) a b c e else trnV R N i j w k (l + 1) (if c = 0 then tdV R N i j l else min a (tdV R N i j l)) (max b (tdV R N i j l)) (hkW (c + 1)) (hkW (e + OFC R N i j l))
def trnOk (R N i j w : Int) : Prop := (0 ≤ i ∧ i < bxC R N) ∧ (0 ≤ j ∧ j < bxC R N) ∧ (0 ≤ w ∧ w ≤ 3)
section SP
variable {t d : Nat} {R N : Int} {Q : Option hkV → Nat → hkG → Prop}
theorem sx_max {g : hkG} {a b : Int} : Xp 175 d 0 [(0, a), (0, b)] [] t g Q = Q (some (0, max a b)) t g := Xp_ev s_max (Nat.zero_le _)
theorem l_turns (ht : 190 ≤ t) {i j w : Int} (hv : trnOk R N i j w) : ∀ (m : Nat) (l a b c e : Int) (v9 v10 : hkV) (g : hkG), l + m = bxC R N → 0 ≤ l → hkP1 v9 → hkP1 v10 → RB g R N → (∀ g' : hkG, qKeep g g' → RB g' R N → Q (some (0, trnV R N i j w m l a b c e)) t g') →
    Xp 9 (d + 12) 49 [(2, 0), (0, i), (0, j), (0, w), (0, a), (0, b), (0, c), (0, e), (0, l), v9, v10] [] t g Q := by
  obtain ⟨⟨i0, i1⟩, ⟨j0, j1⟩, ⟨w0, w1⟩⟩ := id hv
  intro m
  induction m with
  | zero =>
    intro l a b c e v9 v10 g hl hl0 h9 h10 hb hQ
    have hq := hQ g qKeep_r hb
    have hx3 : g 1 3 = bxC R N := (BX_f hb.1).2.2.2.1
    have K : Xp 9 (d + 12) 137 [(2, 0), (0, i), (0, j), (0, w), (0, a), (0, b), (0, c), (0, e), (0, l), v9, v10] [(0, w)] t g Q := by
      unfold trnV at hq
      have h4 : w = 0 ∨ w = 1 ∨ w = 2 ∨ w = 3 := by omega
      rcases h4 with h | h | h | h <;> subst h
      · simp only [x_9_137_k0, x_9_137_k1, x_9_137_k2, x_9_164, x_9_166, x_9_167, x_9_169, x_9_170, x_9_172, x_9_173, x_9_175, hkJK_0, hkJK_1, hkJK_12, jA_0_0, jA_0_2, jR_0_0, jR_0_2, hkP1_0, hkP1_2, hkP1_u, hkC8, List.map_cons, List.map_nil, List.sum_cons, List.sum_nil, hkCat_0, hkCat_1, hkCat_2, Nat.reduceAdd, Nat.reduceLeDiff, hkPush_s, hkPush_n, true_and, and_true, implies_true, true_implies, not_true_eq_false, not_false_eq_true, false_implies, hkTf_0, hkTf_n1, hkOr01, hkOr11, Int.reduceEq, Int.reduceLT, Int.reduceLE, hk102a, hk102b, hk102c, Nat.reduceEqDiff, or_true, true_or, or_false, false_or, and_false, false_and, Classical.not_not, true_implies, List.set_cons_zero, List.set_cons_succ, ne_eq]; exact hq
      · simp only [x_9_137_k0, x_9_137_k1, x_9_137_k2, x_9_164, x_9_166, x_9_167, x_9_169, x_9_170, x_9_172, x_9_173, x_9_175, hkJK_0, hkJK_1, hkJK_12, jA_0_0, jA_0_2, jR_0_0, jR_0_2, hkP1_0, hkP1_2, hkP1_u, hkC8, List.map_cons, List.map_nil, List.sum_cons, List.sum_nil, hkCat_0, hkCat_1, hkCat_2, Nat.reduceAdd, Nat.reduceLeDiff, hkPush_s, hkPush_n, true_and, and_true, implies_true, true_implies, not_true_eq_false, not_false_eq_true, false_implies, hkTf_0, hkTf_n1, hkOr01, hkOr11, Int.reduceEq, Int.reduceLT, Int.reduceLE, hk102a, hk102b, hk102c, Nat.reduceEqDiff, or_true, true_or, or_false, false_or, and_false, false_and, Classical.not_not, true_implies, List.set_cons_zero, List.set_cons_succ, ne_eq]; exact hq
      · simp only [x_9_137_k0, x_9_137_k1, x_9_137_k2, x_9_164, x_9_166, x_9_167, x_9_169, x_9_170, x_9_172, x_9_173, x_9_175, hkJK_0, hkJK_1, hkJK_12, jA_0_0, jA_0_2, jR_0_0, jR_0_2, hkP1_0, hkP1_2, hkP1_u, hkC8, List.map_cons, List.map_nil, List.sum_cons, List.sum_nil, hkCat_0, hkCat_1, hkCat_2, Nat.reduceAdd, Nat.reduceLeDiff, hkPush_s, hkPush_n, true_and, and_true, implies_true, true_implies, not_true_eq_false, not_false_eq_true, false_implies, hkTf_0, hkTf_n1, hkOr01, hkOr11, Int.reduceEq, Int.reduceLT, Int.reduceLE, hk102a, hk102b, hk102c, Nat.reduceEqDiff, or_true, true_or, or_false, false_or, and_false, false_and, Classical.not_not, true_implies, List.set_cons_zero, List.set_cons_succ, ne_eq]; exact hq
      · rw [x_9_137_d (by decide)]; simp only [x_9_164, x_9_166, x_9_167, x_9_169, x_9_170, x_9_172, x_9_173, x_9_175, hkJK_0, hkJK_1, hkJK_12, jA_0_0, jA_0_2, jR_0_0, jR_0_2, hkP1_0, hkP1_2, hkP1_u, hkC8, List.map_cons, List.map_nil, List.sum_cons, List.sum_nil, hkCat_0, hkCat_1, hkCat_2, Nat.reduceAdd, Nat.reduceLeDiff, hkPush_s, hkPush_n, true_and, and_true, implies_true, true_implies, not_true_eq_false, not_false_eq_true, false_implies, hkTf_0, hkTf_n1, hkOr01, hkOr11, Int.reduceEq, Int.reduceLT, Int.reduceLE, hk102a, hk102b, hk102c, Nat.reduceEqDiff, or_true, true_or, or_false, false_or, and_false, false_and, Classical.not_not, true_implies, List.set_cons_zero, List.set_cons_succ, ne_eq]; exact hq
    rw [x_9_49]
    simp only [x_9_51, x_9_52, x_9_55, x_9_58, hkJK_0, hkJK_1, hkJK_12, jA_0_0, jA_0_2, jR_0_0, jR_0_2, hkP1_0, hkP1_2, hkP1_u, hkC8, List.map_cons, List.map_nil, List.sum_cons, List.sum_nil, hkCat_0, hkCat_1, hkCat_2, Nat.reduceAdd, Nat.reduceLeDiff, hkPush_s, hkPush_n, true_and, and_true, implies_true, true_implies, not_true_eq_false, not_false_eq_true, false_implies, hkTf_0, hkTf_n1, hkOr01, hkOr11, Int.reduceEq, Int.reduceLT, Int.reduceLE, hk102a, hk102b, hk102c, Nat.reduceEqDiff, or_true, true_or, or_false, false_or, and_false, false_and, Classical.not_not, true_implies, List.set_cons_zero, List.set_cons_succ, ne_eq, x_9_136, hkJK_0, hkJK_1, hkJK_12, jA_0_0, jA_0_2, jR_0_0, jR_0_2, hkP1_0, hkP1_2, hkP1_u, hkC8, List.map_cons, List.map_nil, List.sum_cons, List.sum_nil, hkCat_0, hkCat_1, hkCat_2, Nat.reduceAdd, Nat.reduceLeDiff, hkPush_s, hkPush_n, true_and, and_true, implies_true, true_implies, not_true_eq_false, not_false_eq_true, false_implies, hkTf_0, hkTf_n1, hkOr01, hkOr11, Int.reduceEq, Int.reduceLT, Int.reduceLE, hk102a, hk102b, hk102c, Nat.reduceEqDiff, or_true, true_or, or_false, false_or, and_false, false_and, Classical.not_not, true_implies, List.set_cons_zero, List.set_cons_succ, ne_eq, hkLe_t ht, hx3]
    exact And.intro (fun _ => K) (fun h => absurd (by omega) h)
  | succ m ih =>
    intro l a b c e v9 v10 g hl hl0 h9 h10 hb hQ
    have hc := bx_C hb.1.1
    have hx3 : g 1 3 = bxC R N := (BX_f hb.1).2.2.2.1
    have hlc : l < bxC R N := by omega
    have hw : hkW (l + 1) = l + 1 := hkW_in (by omega) (by omega)
    unfold trnV at hQ
    rw [x_9_49]
    simp only [x_9_51, x_9_52, x_9_55, x_9_58, x_9_61, x_9_62, x_9_65, x_9_66, x_9_67, x_9_69, hkJK_0, hkJK_1, hkJK_12, jA_0_0, jA_0_2, jR_0_0, jR_0_2, hkP1_0, hkP1_2, hkP1_u, hkC8, List.map_cons, List.map_nil, List.sum_cons, List.sum_nil, hkCat_0, hkCat_1, hkCat_2, Nat.reduceAdd, Nat.reduceLeDiff, hkPush_s, hkPush_n, true_and, and_true, implies_true, true_implies, not_true_eq_false, not_false_eq_true, false_implies, hkTf_0, hkTf_n1, hkOr01, hkOr11, Int.reduceEq, Int.reduceLT, Int.reduceLE, hk102a, hk102b, hk102c, Nat.reduceEqDiff, or_true, true_or, or_false, false_or, and_false, false_and, Classical.not_not, true_implies, List.set_cons_zero, List.set_cons_succ, ne_eq, hkLe_t ht, hx3]
    refine And.intro (fun h => absurd h (by omega)) (fun _ => ?_)
    refine r_often ht hb i0 i1 j0 j1 hl0 hlc (fun g1 k1 hb1 => ?_)
    simp only [x_9_72, x_9_74, x_9_76, x_9_79, x_9_80, x_9_83, x_9_84, x_9_85, x_9_87, x_9_90, x_9_92, x_9_94, x_9_97, x_9_99, x_9_102, x_9_104, x_9_106, x_9_109, x_9_111, x_9_113, x_9_115, x_9_118, x_9_120, x_9_123, x_9_125, x_9_127, x_9_128, x_9_130, x_9_133, hkJK_0, hkJK_1, hkJK_12, jA_0_0, jA_0_2, jR_0_0, jR_0_2, hkP1_0, hkP1_2, hkP1_u, hkC8, List.map_cons, List.map_nil, List.sum_cons, List.sum_nil, hkCat_0, hkCat_1, hkCat_2, Nat.reduceAdd, Nat.reduceLeDiff, hkPush_s, hkPush_n, true_and, and_true, implies_true, true_implies, not_true_eq_false, not_false_eq_true, false_implies, hkTf_0, hkTf_n1, hkOr01, hkOr11, Int.reduceEq, Int.reduceLT, Int.reduceLE, hk102a, hk102b, hk102c, Nat.reduceEqDiff, or_true, true_or, or_false, false_or, and_false, false_and, Classical.not_not, true_implies, List.set_cons_zero, List.set_cons_succ, ne_eq, hkLe_t ht, sx_turnsTo (Nat.le_trans (by decide) ht) hb1.1 i0 i1 j0 j1 hl0 hlc, sx_min, sx_max, hw]
    clear hw
    refine And.intro (fun h => ?_) (fun h => And.intro (fun h2 => ?_) (fun h2 => ?_))
    · rw [if_pos h] at hQ
      exact ih (l + 1) a b c e _ _ g1 (by omega) (by omega) (by unfold hkP1; simp) h10 hb1 (fun g' k2 hb2 => hQ g' (qKeep_t k1 k2) hb2)
    · rw [if_neg h, if_neg h2] at hQ
      exact ih (l + 1) _ _ _ _ _ _ g1 (by omega) (by omega) (by unfold hkP1; simp) (by unfold hkP1; simp) hb1 (fun g' k2 hb2 => hQ g' (qKeep_t k1 k2) hb2)
    · rw [if_neg h, if_pos h2] at hQ
      exact ih (l + 1) _ _ _ _ _ _ g1 (by omega) (by omega) (by unfold hkP1; simp) (by unfold hkP1; simp) hb1 (fun g' k2 hb2 => hQ g' (qKeep_t k1 k2) hb2)
theorem l_mturns (ht : 190 ≤ t) {i j w : Int} (hv : trnOk R N i j w) : ∀ (m : Nat) (l a b c e : Int) (v9 v10 : hkV) (g : hkG), l + m = bxC R N → 0 ≤ l → hkP1 v9 → hkP1 v10 → RB g R N → (∀ g' : hkG, qKeep g g' → RB g' R N → Q (some (0, trnV R N i j w m l a b c e)) t g') →
    Xp 127 (d + 12) 46 [(2, 66), (0, i), (0, j), (0, w), (0, a), (0, b), (0, c), (0, e), (0, l), v9, v10] [] t g Q := by
  obtain ⟨⟨i0, i1⟩, ⟨j0, j1⟩, ⟨w0, w1⟩⟩ := id hv
  intro m
  induction m with
  | zero =>
    intro l a b c e v9 v10 g hl hl0 h9 h10 hb hQ
    have hq := hQ g qKeep_r hb
    have hx3 : g 66 2 = bxC R N := (MX_f hb.2.2.2.2.1).2.2.1
    unfold trnV at hq
    rw [x_127_46]
    simp only [x_127_48, x_127_49, x_127_52, hkJK_66, hkP1_0, hkP1_2, hkP1_u, hkC8, List.map_cons, List.map_nil, List.sum_cons, List.sum_nil, hkCat_0, hkCat_1, hkCat_2, Nat.reduceAdd, Nat.reduceLeDiff, hkPush_s, hkPush_n, true_and, and_true, implies_true, true_implies, not_true_eq_false, not_false_eq_true, false_implies, hkTf_0, hkTf_n1, hkOr01, hkOr11, Int.reduceEq, Int.reduceLT, Int.reduceLE, hk102a, hk102b, hk102c, Nat.reduceEqDiff, or_true, true_or, or_false, false_or, and_false, false_and, Classical.not_not, true_implies, List.set_cons_zero, List.set_cons_succ, ne_eq, x_127_126, x_127_127, x_127_130, x_127_132, x_127_135, x_127_136, x_127_137, x_127_140, x_127_142, x_127_145, x_127_146, x_127_147, x_127_150, x_127_152, x_127_155, x_127_157, hkJK_66, hkP1_0, hkP1_2, hkP1_u, hkC8, List.map_cons, List.map_nil, List.sum_cons, List.sum_nil, hkCat_0, hkCat_1, hkCat_2, Nat.reduceAdd, Nat.reduceLeDiff, hkPush_s, hkPush_n, true_and, and_true, implies_true, true_implies, not_true_eq_false, not_false_eq_true, false_implies, hkTf_0, hkTf_n1, hkOr01, hkOr11, Int.reduceEq, Int.reduceLT, Int.reduceLE, hk102a, hk102b, hk102c, Nat.reduceEqDiff, or_true, true_or, or_false, false_or, and_false, false_and, Classical.not_not, true_implies, List.set_cons_zero, List.set_cons_succ, ne_eq, hkLe_t ht, hx3]
    refine And.intro (fun _ => ?_) (fun h => absurd (by omega) h)
    have h4 : w = 0 ∨ w = 1 ∨ w = 2 ∨ w = 3 := by omega
    rcases h4 with h | h | h | h <;> subst h
    · repeat' (first | exact hq | refine And.intro ?_ ?_ | intro _ | (exfalso; omega))
    · repeat' (first | exact hq | refine And.intro ?_ ?_ | intro _ | (exfalso; omega))
    · repeat' (first | exact hq | refine And.intro ?_ ?_ | intro _ | (exfalso; omega))
    · repeat' (first | exact hq | refine And.intro ?_ ?_ | intro _ | (exfalso; omega))
  | succ m ih =>
    intro l a b c e v9 v10 g hl hl0 h9 h10 hb hQ
    have hc := bx_C hb.1.1
    have hx3 : g 66 2 = bxC R N := (MX_f hb.2.2.2.2.1).2.2.1
    have hlc : l < bxC R N := by omega
    have hw : hkW (l + 1) = l + 1 := hkW_in (by omega) (by omega)
    unfold trnV at hQ
    rw [x_127_46]
    simp only [x_127_48, x_127_49, x_127_52, x_127_55, x_127_56, x_127_57, x_127_58, x_127_60, hkJK_66, hkP1_0, hkP1_2, hkP1_u, hkC8, List.map_cons, List.map_nil, List.sum_cons, List.sum_nil, hkCat_0, hkCat_1, hkCat_2, Nat.reduceAdd, Nat.reduceLeDiff, hkPush_s, hkPush_n, true_and, and_true, implies_true, true_implies, not_true_eq_false, not_false_eq_true, false_implies, hkTf_0, hkTf_n1, hkOr01, hkOr11, Int.reduceEq, Int.reduceLT, Int.reduceLE, hk102a, hk102b, hk102c, Nat.reduceEqDiff, or_true, true_or, or_false, false_or, and_false, false_and, Classical.not_not, true_implies, List.set_cons_zero, List.set_cons_succ, ne_eq, hkLe_t ht, hx3]
    refine And.intro (fun h => absurd h (by omega)) (fun _ => ?_)
    refine r_moften ht hb i0 i1 j0 j1 hl0 hlc (fun g1 k1 hb1 => ?_)
    simp only [x_127_63, x_127_65, x_127_67, x_127_70, x_127_71, x_127_72, x_127_73, x_127_75, x_127_78, x_127_80, x_127_82, x_127_85, x_127_87, x_127_89, x_127_92, x_127_94, x_127_97, x_127_99, x_127_101, x_127_103, x_127_105, x_127_108, x_127_110, x_127_113, x_127_115, x_127_117, x_127_118, x_127_120, x_127_123, hkJK_66, hkP1_0, hkP1_2, hkP1_u, hkC8, List.map_cons, List.map_nil, List.sum_cons, List.sum_nil, hkCat_0, hkCat_1, hkCat_2, Nat.reduceAdd, Nat.reduceLeDiff, hkPush_s, hkPush_n, true_and, and_true, implies_true, true_implies, not_true_eq_false, not_false_eq_true, false_implies, hkTf_0, hkTf_n1, hkOr01, hkOr11, Int.reduceEq, Int.reduceLT, Int.reduceLE, hk102a, hk102b, hk102c, Nat.reduceEqDiff, or_true, true_or, or_false, false_or, and_false, false_and, Classical.not_not, true_implies, List.set_cons_zero, List.set_cons_succ, ne_eq, hkLe_t ht, sx_mTurnsOf ht hb1.2.2.2.2.1 i0 i1 j0 j1 hl0 hlc, sx_max, hw]
    clear hw
    have ST : ∀ a' : Int, a' = (if c = 0 then tdV R N i j l else min a (tdV R N i j l)) → ¬ OFC R N i j l = 0 → Xp 127 (d + 11 + 1) 46 [(2, 66), (0, i), (0, j), (0, w), (0, a'), (0, max b (tdV R N i j l)), (0, hkW (c + 1)), (0, hkW (e + OFC R N i j l)), (0, l + 1), (0, OFC R N i j l), (0, tdV R N i j l)] [] t g1 Q := by
      intro a' ha' h
      rw [if_neg h, ← ha'] at hQ
      exact ih (l + 1) _ _ _ _ _ _ g1 (by omega) (by omega) (by unfold hkP1; simp) (by unfold hkP1; simp) hb1 (fun g' k2 hb2 => hQ g' (qKeep_t k1 k2) hb2)
    refine And.intro (fun h => ?_) (fun h => And.intro (fun h2 => ?_) (fun h2 => And.intro (fun h3 => ?_) (fun h3 => ?_)))
    · rw [if_pos h] at hQ
      exact ih (l + 1) a b c e _ _ g1 (by omega) (by omega) (by unfold hkP1; simp) h10 hb1 (fun g' k2 hb2 => hQ g' (qKeep_t k1 k2) hb2)
    · exact ST _ (by rw [if_pos h2]; rfl) h
    · exact ST a (by rw [if_neg h2]; unfold tdV; omega) h
    · exact ST _ (by rw [if_neg h2]; unfold tdV; omega) h
theorem c_turns {g : hkG} (ht : 190 ≤ t) (hb : RB g R N) {i j w : Int} (h1 : ¬ trnOk R N i j w → Q (some (0, -2)) t g) (hQ : trnOk R N i j w → ∀ g' : hkG, qKeep g g' → RB g' R N → Q (some (0, trnV R N i j w (bxC R N).toNat 0 (-1) (-1) 0 0)) t g') :
    Xp 9 (d + 12) 0 [(2, 0), (0, i), (0, j), (0, w), hkU, hkU, hkU, hkU, hkU, hkU, hkU] [] t g Q := by
  have hc := bx_C hb.1.1
  simp only [x_9_0, x_9_1, x_9_4, x_9_5, x_9_8, x_9_11, x_9_12, x_9_15, x_9_16, x_9_19, x_9_22, x_9_23, x_9_24, x_9_25, x_9_28, x_9_31, x_9_33, hkJK_0, hkJK_1, hkJK_12, jA_0_0, jA_0_2, jR_0_0, jR_0_2, hkP1_0, hkP1_2, hkP1_u, hkC8, List.map_cons, List.map_nil, List.sum_cons, List.sum_nil, hkCat_0, hkCat_1, hkCat_2, Nat.reduceAdd, Nat.reduceLeDiff, hkPush_s, hkPush_n, true_and, and_true, implies_true, true_implies, not_true_eq_false, not_false_eq_true, false_implies, hkTf_0, hkTf_n1, hkOr01, hkOr11, Int.reduceEq, Int.reduceLT, Int.reduceLE, hk102a, hk102b, hk102c, Nat.reduceEqDiff, or_true, true_or, or_false, false_or, and_false, false_and, Classical.not_not, true_implies, List.set_cons_zero, List.set_cons_succ, ne_eq, hkLe_t ht, sx_isShape ht hb.1, sx_isOff]
  by_cases hv : trnOk R N i j w
  · have L := l_turns (d := d) (Q := Q) ht hv (bxC R N).toNat 0 (-1) (-1) 0 0 hkU hkU g (by omega) (by omega) (by rw [hkP1_u]; trivial) (by rw [hkP1_u]; trivial) hb (hQ hv)
    unfold trnOk at hv
    have K : Xp 9 (d + 12) 34 [(2, 0), (0, i), (0, j), (0, w), hkU, hkU, hkU, hkU, hkU, hkU, hkU] [] t g Q := by
      simp only [x_9_34, x_9_35, x_9_37, x_9_38, x_9_40, x_9_41, x_9_43, x_9_44, x_9_46, x_9_47, hkJK_0, hkJK_1, hkJK_12, jA_0_0, jA_0_2, jR_0_0, jR_0_2, hkP1_0, hkP1_2, hkP1_u, hkC8, List.map_cons, List.map_nil, List.sum_cons, List.sum_nil, hkCat_0, hkCat_1, hkCat_2, Nat.reduceAdd, Nat.reduceLeDiff, hkPush_s, hkPush_n, true_and, and_true, implies_true, true_implies, not_true_eq_false, not_false_eq_true, false_implies, hkTf_0, hkTf_n1, hkOr01, hkOr11, Int.reduceEq, Int.reduceLT, Int.reduceLE, hk102a, hk102b, hk102c, Nat.reduceEqDiff, or_true, true_or, or_false, false_or, and_false, false_and, Classical.not_not, true_implies, List.set_cons_zero, List.set_cons_succ, ne_eq]
      exact L
    repeat' (first | exact K | refine And.intro ?_ ?_ | intro _ | (exfalso; omega))
  · have hq := h1 hv
    unfold trnOk at hv
    repeat' (first | exact hq | refine And.intro ?_ ?_ | intro _ | (exfalso; omega))
theorem m_turns {g : hkG} (ht : 190 ≤ t) (hb : RB g R N) {i j w : Int} (h1 : ¬ trnOk R N i j w → Q (some (0, -2)) t g) (hQ : trnOk R N i j w → ∀ g' : hkG, qKeep g g' → RB g' R N → Q (some (0, trnV R N i j w (bxC R N).toNat 0 (-1) (-1) 0 0)) t g') :
    Xp 127 (d + 12) 0 [(2, 66), (0, i), (0, j), (0, w), hkU, hkU, hkU, hkU, hkU, hkU, hkU] [] t g Q := by
  have hc := bx_C hb.1.1
  simp only [x_127_0, x_127_1, x_127_2, x_127_5, x_127_8, x_127_9, x_127_10, x_127_13, x_127_16, x_127_17, x_127_18, x_127_19, x_127_22, x_127_25, x_127_28, x_127_30, hkJK_66, hkP1_0, hkP1_2, hkP1_u, hkC8, List.map_cons, List.map_nil, List.sum_cons, List.sum_nil, hkCat_0, hkCat_1, hkCat_2, Nat.reduceAdd, Nat.reduceLeDiff, hkPush_s, hkPush_n, true_and, and_true, implies_true, true_implies, not_true_eq_false, not_false_eq_true, false_implies, hkTf_0, hkTf_n1, hkOr01, hkOr11, Int.reduceEq, Int.reduceLT, Int.reduceLE, hk102a, hk102b, hk102c, Nat.reduceEqDiff, or_true, true_or, or_false, false_or, and_false, false_and, Classical.not_not, true_implies, List.set_cons_zero, List.set_cons_succ, ne_eq, hkLe_t ht, sx_mIsShape ht hb.2.2.2.2.1, sx_mIsIn]
  by_cases hv : trnOk R N i j w
  · have L := l_mturns (d := d) (Q := Q) ht hv (bxC R N).toNat 0 (-1) (-1) 0 0 hkU hkU g (by omega) (by omega) (by rw [hkP1_u]; trivial) (by rw [hkP1_u]; trivial) hb (hQ hv)
    unfold trnOk at hv
    have K : Xp 127 (d + 12) 31 [(2, 66), (0, i), (0, j), (0, w), hkU, hkU, hkU, hkU, hkU, hkU, hkU] [] t g Q := by
      simp only [x_127_31, x_127_32, x_127_34, x_127_35, x_127_37, x_127_38, x_127_40, x_127_41, x_127_43, x_127_44, hkJK_66, hkP1_0, hkP1_2, hkP1_u, hkC8, List.map_cons, List.map_nil, List.sum_cons, List.sum_nil, hkCat_0, hkCat_1, hkCat_2, Nat.reduceAdd, Nat.reduceLeDiff, hkPush_s, hkPush_n, true_and, and_true, implies_true, true_implies, not_true_eq_false, not_false_eq_true, false_implies, hkTf_0, hkTf_n1, hkOr01, hkOr11, Int.reduceEq, Int.reduceLT, Int.reduceLE, hk102a, hk102b, hk102c, Nat.reduceEqDiff, or_true, true_or, or_false, false_or, and_false, false_and, Classical.not_not, true_implies, List.set_cons_zero, List.set_cons_succ, ne_eq]
      exact L
    repeat' (first | exact K | refine And.intro ?_ ?_ | intro _ | (exfalso; omega))
  · have hq := h1 hv
    unfold trnOk at hv
    repeat' (first | exact hq | refine And.intro ?_ ?_ | intro _ | (exfalso; omega))
theorem tie_turns {g : hkG} {xs : Int → Int} {L i j w : Int} (ht : 190 ≤ t) (hR : Rel xs L g) : Tie xs L 9 (d + 12) [(2, 0), (0, i), (0, j), (0, w), hkU, hkU, hkU, hkU, hkU, hkU, hkU] 127 [(2, 66), (0, i), (0, j), (0, w), hkU, hkU, hkU, hkU, hkU, hkU, hkU] t g := by
  obtain ⟨R, N, hb, hr⟩ := hR
  refine c_turns ht hb (fun hv => ⟨_, rfl, rfl, ?_⟩) (fun hv g1 k1 hb1 => ⟨_, rfl, rfl, ?_⟩)
  · exact m_turns ht hb (fun _ => ⟨rfl, rfl, R, N, hb, hr⟩) (fun h => absurd h hv)
  · exact m_turns ht hb1 (fun h => absurd hv h) (fun _ g2 k2 hb2 => ⟨rfl, rfl, Rel_q hb2 (qKeep_t k1 k2) hr⟩)
end SP
