/-! ties: load -/
def ldT (C sz fr : Int) (f : Int → Int) : Nat → Int → (Int → Int) → Int → Int × (Int → Int)
  | 0, _, S, c => (c, S)
  | k + 1, l, S, c => if 0 ≤ fr + l ∧ fr + l < sz then (if l < C ∧ -1000000 ≤ f (fr + l) ∧ f (fr + l) ≤ 1000000 then ldT C sz fr f k (l + 1) (fun p => if p = l then f (fr + l) else S p) (c + 1) else ldT C sz fr f k (l + 1) S c) else (-12, S)
def smInv (C : Int) (S T : Int → Int) : Prop := ∀ p : Int, 0 ≤ p → p < 280 → S p = T p ∧ rngS (T p) ∧ (C ≤ p % 35 → T p = 0)
theorem ldT_ok {C sz fr : Int} {f : Int → Int} (hC : C ≤ 35) : ∀ (k : Nat) (l : Int) (S T : Int → Int) (c : Int), 0 ≤ l → smInv C S T → (ldT C sz fr f k l S c).1 = (ldT C sz fr f k l T c).1 ∧ smInv C (ldT C sz fr f k l S c).2 (ldT C sz fr f k l T c).2 := by
  intro k
  induction k with
  | zero => intro l S T c h0 h; exact ⟨rfl, h⟩
  | succ k ih =>
    intro l S T c h0 h
    unfold ldT
    by_cases h1 : 0 ≤ fr + l ∧ fr + l < sz
    · rw [if_pos h1, if_pos h1]
      by_cases h2 : l < C ∧ -1000000 ≤ f (fr + l) ∧ f (fr + l) ≤ 1000000
      · rw [if_pos h2, if_pos h2]
        refine ih (l + 1) _ _ _ (by omega) (fun p p0 p1 => ?_)
        by_cases e : p = l
        · simp only [if_pos e]
          refine And.intro trivial (And.intro ⟨h2.2.1, h2.2.2⟩ (fun h3 => ?_))
          exfalso; omega
        · simp only [if_neg e]
          exact h p p0 p1
      · rw [if_neg h2, if_neg h2]
        exact ih (l + 1) S T c (by omega) h
    · rw [if_neg h1, if_neg h1]
      exact ⟨rfl, h⟩
section SP
variable {t d : Nat} {R N : Int} {Q : Option hkV → Nat → hkG → Prop}
theorem l_load {g : hkG} (ht : 190 ≤ t) {s so fr n sz : Int} {f : Int → Int} (s0 : 0 ≤ s) (s3 : s ≤ 3) (hX : BX g R N) (hI : inI fr) (hn : n ≤ 40) (hsz : g (58 + 2 * s) 1 = sz) (z0 : 0 ≤ sz) (z40 : sz ≤ 40) (hf : ∀ k : Int, 0 ≤ k → k < sz → g (59 + 2 * s) k = f k) : ∀ (k : Nat) (l came : Int) (v8 : hkV) (g1 : hkG), l + k = n → 0 ≤ l → 0 ≤ came → came ≤ l → (l = 0 ∨ (0 ≤ fr ∧ fr + l ≤ sz)) → (∀ q : Int, q ≠ 52 → g1 q = g q) → (∀ g' : hkG, (∀ q : Int, q ≠ 52 → g' q = g q) → g' 52 = (ldT (bxC R N) sz fr f k l (g1 52) came).2 → Q (some (0, (ldT (bxC R N) sz fr f k l (g1 52) came).1)) t g') →
    Xp 28 (d + 12) 67 [(2, 0), (0, s), (0, so), (0, fr), (0, n), (2, 58 + 2 * s), (0, came), (0, l), v8] [] t g1 Q := by
  obtain ⟨a1, a2, a3, a4, a5, a6, a7⟩ := sh_f ht s0 s3
  unfold inI at hI
  intro k
  induction k with
  | zero =>
    intro l came v8 g1 hl l0 c0 c1 hin k1 hQ
    have hq := hQ g1 k1 rfl
    unfold ldT at hq
    rw [x_28_67]
    simp only [x_28_69, x_28_71, hkJK_0, hkJK_1, hkJK_51, hkJK_57, jA_0_0, jA_0_12, jA_0_7, jL_57, jR_0_0, jR_0_12, jR_0_7, hkP1_0, hkP1_2, hkP1_u, hkC8, List.map_cons, List.map_nil, List.sum_cons, List.sum_nil, hkCat_0, hkCat_1, hkCat_2, Nat.reduceAdd, Nat.reduceLeDiff, hkPush_s, hkPush_n, true_and, and_true, implies_true, true_implies, not_true_eq_false, not_false_eq_true, false_implies, hkTf_0, hkTf_n1, hkOr01, hkOr11, Int.reduceEq, Int.reduceLT, Int.reduceLE, hk102a, hk102b, hk102c, Nat.reduceEqDiff, or_true, true_or, or_false, false_or, and_false, false_and, Classical.not_not, true_implies, List.set_cons_zero, List.set_cons_succ, ne_eq, x_28_148, x_28_150, hkJK_0, hkJK_1, hkJK_51, hkJK_57, jA_0_0, jA_0_12, jA_0_7, jL_57, jR_0_0, jR_0_12, jR_0_7, hkP1_0, hkP1_2, hkP1_u, hkC8, List.map_cons, List.map_nil, List.sum_cons, List.sum_nil, hkCat_0, hkCat_1, hkCat_2, Nat.reduceAdd, Nat.reduceLeDiff, hkPush_s, hkPush_n, true_and, and_true, implies_true, true_implies, not_true_eq_false, not_false_eq_true, false_implies, hkTf_0, hkTf_n1, hkOr01, hkOr11, Int.reduceEq, Int.reduceLT, Int.reduceLE, hk102a, hk102b, hk102c, Nat.reduceEqDiff, or_true, true_or, or_false, false_or, and_false, false_and, Classical.not_not, true_implies, List.set_cons_zero, List.set_cons_succ, ne_eq]
    repeat' (first | exact hq | refine And.intro ?_ ?_ | intro _ | trivial | omega | (exfalso; omega))
  | succ k ih =>
    intro l came v8 g1 hl l0 c0 c1 hin k1 hQ
    have hX1 : BX g1 R N := BX_row hX (fun p p1 p2 => k1 p (by omega))
    have hc := bx_C hX.1
    have hn1 : g1 (58 + 2 * s) 1 = sz := by rw [k1 _ (by omega)]; exact hsz
    unfold ldT at hQ
    by_cases hi : 0 ≤ fr + l ∧ fr + l < sz
    · rw [if_pos hi] at hQ
      have hf1 : g1 (59 + 2 * s) (fr + l) = f (fr + l) := by rw [k1 _ (by omega)]; exact hf _ hi.1 hi.2
      have hi2 : 0 ≤ fr + l ∧ fr + l < g1 (58 + 2 * s) 1 := by rw [hn1]; exact hi
      have hin' : l + 1 = 0 ∨ (0 ≤ fr ∧ fr + (l + 1) ≤ sz) := by omega
      obtain ⟨hw, e1, e2⟩ : hkW (l + 1) = l + 1 ∧ hkW (fr + l) = fr + l ∧ hkW (came + 1) = came + 1 := ⟨hkW_in (by omega) (by omega), hkW_in (by omega) (by omega), hkW_in (by omega) (by omega)⟩
      by_cases h2 : l < bxC R N ∧ -1000000 ≤ f (fr + l) ∧ f (fr + l) ≤ 1000000
      · rw [if_pos h2] at hQ
        have r1 : hkSet g1 52 l (f (fr + l)) 52 = fun p => if p = l then f (fr + l) else g1 52 p := by
          funext p
          rw [hkSet_rd]
          by_cases e : p = l
          · rw [if_pos ⟨rfl, e⟩, if_pos e]
          · rw [if_neg (fun h => e h.2), if_neg e]
        have IH := ih (l + 1) (came + 1) (0, f (fr + l)) (hkSet g1 52 l (f (fr + l))) (by clear hw e1 e2; omega) (by clear hw e1 e2; omega) (by clear hw e1 e2; omega) (by clear hw e1 e2; omega) hin' (fun q hq => by rw [hkSet_row hq, k1 q hq]) (by rw [r1]; exact hQ)
        rw [x_28_67]
        simp only [x_28_69, x_28_71, x_28_74, x_28_76, x_28_77, x_28_79, x_28_80, x_28_83, x_28_86, x_28_88, x_28_89, x_28_91, x_28_94, x_28_95, x_28_97, x_28_98, x_28_99, x_28_101, x_28_102, x_28_105, x_28_107, x_28_110, x_28_113, x_28_115, x_28_118, x_28_121, x_28_124, x_28_127, x_28_128, x_28_131, x_28_134, x_28_136, x_28_138, x_28_139, x_28_142, x_28_145, hkJK_0, hkJK_1, hkJK_51, hkJK_57, jA_0_0, jA_0_12, jA_0_7, jL_57, jR_0_0, jR_0_12, jR_0_7, hkP1_0, hkP1_2, hkP1_u, hkC8, List.map_cons, List.map_nil, List.sum_cons, List.sum_nil, hkCat_0, hkCat_1, hkCat_2, Nat.reduceAdd, Nat.reduceLeDiff, hkPush_s, hkPush_n, true_and, and_true, implies_true, true_implies, not_true_eq_false, not_false_eq_true, false_implies, hkTf_0, hkTf_n1, hkOr01, hkOr11, Int.reduceEq, Int.reduceLT, Int.reduceLE, hk102a, hk102b, hk102c, Nat.reduceEqDiff, or_true, true_or, or_false, false_or, and_false, false_and, Classical.not_not, true_implies, List.set_cons_zero, List.set_cons_succ, ne_eq, jA_51_0, jR_51_0, hkJK_51, jL_52, hkJK_52, jA_53_0, jR_53_0, hkJK_53, jL_54, hkJK_54, jA_55_0, jR_55_0, hkJK_55, jL_56, hkJK_56, hkLe_t ht, a3, a4, a5, a6, a7, e1, sx_hasItem a3, hn1, hf1, sx_isShape ht hX1, sx_isOff, hw, e2]
        clear hw e1 e2
        repeat' (first | exact IH | refine And.intro ?_ ?_ | intro _ | trivial | omega | (exfalso; omega))
      · rw [if_neg h2] at hQ
        have IH := ih (l + 1) came (0, f (fr + l)) g1 (by clear hw e1 e2; omega) (by clear hw e1 e2; omega) (by clear hw e1 e2; omega) (by clear hw e1 e2; omega) hin' k1 hQ
        rw [x_28_67]
        simp only [x_28_69, x_28_71, x_28_74, x_28_76, x_28_77, x_28_79, x_28_80, x_28_83, x_28_86, x_28_88, x_28_89, x_28_91, x_28_94, x_28_95, x_28_97, x_28_98, x_28_99, x_28_101, x_28_102, x_28_105, x_28_107, x_28_110, x_28_113, x_28_115, x_28_118, x_28_121, x_28_124, x_28_127, x_28_128, x_28_131, x_28_134, x_28_136, x_28_138, x_28_139, x_28_142, x_28_145, hkJK_0, hkJK_1, hkJK_51, hkJK_57, jA_0_0, jA_0_12, jA_0_7, jL_57, jR_0_0, jR_0_12, jR_0_7, hkP1_0, hkP1_2, hkP1_u, hkC8, List.map_cons, List.map_nil, List.sum_cons, List.sum_nil, hkCat_0, hkCat_1, hkCat_2, Nat.reduceAdd, Nat.reduceLeDiff, hkPush_s, hkPush_n, true_and, and_true, implies_true, true_implies, not_true_eq_false, not_false_eq_true, false_implies, hkTf_0, hkTf_n1, hkOr01, hkOr11, Int.reduceEq, Int.reduceLT, Int.reduceLE, hk102a, hk102b, hk102c, Nat.reduceEqDiff, or_true, true_or, or_false, false_or, and_false, false_and, Classical.not_not, true_implies, List.set_cons_zero, List.set_cons_succ, ne_eq, jA_51_0, jR_51_0, hkJK_51, jL_52, hkJK_52, jA_53_0, jR_53_0, hkJK_53, jL_54, hkJK_54, jA_55_0, jR_55_0, hkJK_55, jL_56, hkJK_56, hkLe_t ht, a3, a4, a5, a6, a7, e1, sx_hasItem a3, hn1, hf1, sx_isShape ht hX1, sx_isOff, hw, e2]
        clear hw e1 e2
        repeat' (first | exact IH | refine And.intro ?_ ?_ | intro _ | trivial | omega | (exfalso; omega))
    · rw [if_neg hi] at hQ
      have hq := hQ g1 k1 rfl
      have e1 : hkW (fr + l) = fr + l := hkW_in (by omega) (by omega)
      rw [x_28_67]
      simp only [x_28_69, x_28_71, x_28_74, x_28_76, x_28_77, x_28_79, x_28_80, x_28_83, x_28_86, x_28_88, hkJK_0, hkJK_1, hkJK_51, hkJK_57, jA_0_0, jA_0_12, jA_0_7, jL_57, jR_0_0, jR_0_12, jR_0_7, hkP1_0, hkP1_2, hkP1_u, hkC8, List.map_cons, List.map_nil, List.sum_cons, List.sum_nil, hkCat_0, hkCat_1, hkCat_2, Nat.reduceAdd, Nat.reduceLeDiff, hkPush_s, hkPush_n, true_and, and_true, implies_true, true_implies, not_true_eq_false, not_false_eq_true, false_implies, hkTf_0, hkTf_n1, hkOr01, hkOr11, Int.reduceEq, Int.reduceLT, Int.reduceLE, hk102a, hk102b, hk102c, Nat.reduceEqDiff, or_true, true_or, or_false, false_or, and_false, false_and, Classical.not_not, true_implies, List.set_cons_zero, List.set_cons_succ, ne_eq, hkLe_t ht, a3, e1, sx_hasItem a3, hn1]
      clear e1
      repeat' (first | exact hq | refine And.intro ?_ ?_ | intro _ | trivial | omega | (exfalso; omega))
theorem l_mload {g : hkG} (ht : 190 ≤ t) {s so fr n sz : Int} {f : Int → Int} (s0 : 0 ≤ s) (s3 : s ≤ 3) (hX : MX g R N) (hI : inI fr) (hn : n ≤ 40) (hsz : g 88 s = sz) (z0 : 0 ≤ sz) (z40 : sz ≤ 40) (hf : ∀ k : Int, 0 ≤ k → k < sz → g 89 (40 * s + k) = f k) : ∀ (k : Nat) (l came : Int) (v8 : hkV) (g1 : hkG), l + k = n → 0 ≤ l → 0 ≤ came → came ≤ l → (l = 0 ∨ (0 ≤ fr ∧ fr + l ≤ sz)) → (∀ q : Int, q ≠ 72 → g1 q = g q) → (∀ g' : hkG, (∀ q : Int, q ≠ 72 → g' q = g q) → g' 72 = (ldT (bxC R N) sz fr f k l (g1 72) came).2 → Q (some (0, (ldT (bxC R N) sz fr f k l (g1 72) came).1)) t g') →
    Xp 167 (d + 12) 65 [(2, 66), (0, s), (0, so), (0, fr), (0, n), (0, came), (0, l), v8] [] t g1 Q := by
  unfold inI at hI
  intro k
  induction k with
  | zero =>
    intro l came v8 g1 hl l0 c0 c1 hin k1 hQ
    have hq := hQ g1 k1 rfl
    unfold ldT at hq
    rw [x_167_65]
    simp only [x_167_67, x_167_69, hkJK_66, hkJK_72, hkJK_87, hkJK_88, hkJK_89, jA_66_36, jA_66_37, jA_66_38, jA_66_8, jL_72, jL_87, jL_88, jL_89, jR_66_36, jR_66_37, jR_66_38, jR_66_8, hkP1_0, hkP1_2, hkP1_u, hkC8, List.map_cons, List.map_nil, List.sum_cons, List.sum_nil, hkCat_0, hkCat_1, hkCat_2, Nat.reduceAdd, Nat.reduceLeDiff, hkPush_s, hkPush_n, true_and, and_true, implies_true, true_implies, not_true_eq_false, not_false_eq_true, false_implies, hkTf_0, hkTf_n1, hkOr01, hkOr11, Int.reduceEq, Int.reduceLT, Int.reduceLE, hk102a, hk102b, hk102c, Nat.reduceEqDiff, or_true, true_or, or_false, false_or, and_false, false_and, Classical.not_not, true_implies, List.set_cons_zero, List.set_cons_succ, ne_eq, x_167_152, x_167_154, hkJK_66, hkJK_72, hkJK_87, hkJK_88, hkJK_89, jA_66_36, jA_66_37, jA_66_38, jA_66_8, jL_72, jL_87, jL_88, jL_89, jR_66_36, jR_66_37, jR_66_38, jR_66_8, hkP1_0, hkP1_2, hkP1_u, hkC8, List.map_cons, List.map_nil, List.sum_cons, List.sum_nil, hkCat_0, hkCat_1, hkCat_2, Nat.reduceAdd, Nat.reduceLeDiff, hkPush_s, hkPush_n, true_and, and_true, implies_true, true_implies, not_true_eq_false, not_false_eq_true, false_implies, hkTf_0, hkTf_n1, hkOr01, hkOr11, Int.reduceEq, Int.reduceLT, Int.reduceLE, hk102a, hk102b, hk102c, Nat.reduceEqDiff, or_true, true_or, or_false, false_or, and_false, false_and, Classical.not_not, true_implies, List.set_cons_zero, List.set_cons_succ, ne_eq]
    repeat' (first | exact hq | refine And.intro ?_ ?_ | intro _ | trivial | omega | (exfalso; omega))
  | succ k ih =>
    intro l came v8 g1 hl l0 c0 c1 hin k1 hQ
    have hX1 : MX g1 R N := MX_row hX (fun k _ => by rw [k1 66 (by decide)]) (k1 67 (by decide)) (k1 68 (by decide)) (k1 69 (by decide))
    have hc := bx_C hX.1
    have hn1 : g1 88 s = sz := by rw [k1 _ (by omega)]; exact hsz
    unfold ldT at hQ
    by_cases hi : 0 ≤ fr + l ∧ fr + l < sz
    · rw [if_pos hi] at hQ
      have hf1 : g1 89 (40 * s + fr + l) = f (fr + l) := by rw [k1 _ (by omega), Int.add_assoc]; exact hf _ hi.1 hi.2
      have hin' : l + 1 = 0 ∨ (0 ≤ fr ∧ fr + (l + 1) ≤ sz) := by omega
      have hfr : 0 ≤ fr := by omega
      obtain ⟨hw, e1, e2, e3, e4, e5, e6⟩ : hkW (l + 1) = l + 1 ∧ hkW (40 * s) = 40 * s ∧ hkW (came + 1) = came + 1 ∧ hkW (40 * s + fr) = 40 * s + fr ∧ hkW (40 * s + fr + l) = 40 * s + fr + l ∧ hkW (sz - 1) = sz - 1 ∧ hkW (sz - 1 - fr) = sz - 1 - fr := ⟨hkW_in (by omega) (by omega), hkW_in (by omega) (by omega), hkW_in (by omega) (by omega), hkW_in (by omega) (by omega), hkW_in (by omega) (by omega), hkW_in (by omega) (by omega), hkW_in (by omega) (by omega)⟩
      by_cases h2 : l < bxC R N ∧ -1000000 ≤ f (fr + l) ∧ f (fr + l) ≤ 1000000
      · rw [if_pos h2] at hQ
        have r1 : hkSet g1 72 l (f (fr + l)) 72 = fun p => if p = l then f (fr + l) else g1 72 p := by
          funext p
          rw [hkSet_rd]
          by_cases e : p = l
          · rw [if_pos ⟨rfl, e⟩, if_pos e]
          · rw [if_neg (fun h => e h.2), if_neg e]
        have IH := ih (l + 1) (came + 1) (0, f (fr + l)) (hkSet g1 72 l (f (fr + l))) (by clear hw e1 e2 e3 e4 e5 e6; omega) (by clear hw e1 e2 e3 e4 e5 e6; omega) (by clear hw e1 e2 e3 e4 e5 e6; omega) (by clear hw e1 e2 e3 e4 e5 e6; omega) hin' (fun q hq => by rw [hkSet_row hq, k1 q hq]) (by rw [r1]; exact hQ)
        rw [x_167_65]
        simp only [x_167_67, x_167_69, x_167_72, x_167_73, x_167_76, x_167_78, x_167_79, x_167_82, x_167_83, x_167_84, x_167_85, x_167_86, x_167_87, x_167_88, x_167_91, x_167_93, x_167_94, x_167_95, x_167_98, x_167_100, x_167_101, x_167_102, x_167_103, x_167_104, x_167_106, x_167_107, x_167_108, x_167_110, x_167_111, x_167_113, x_167_116, x_167_119, x_167_121, x_167_122, x_167_125, x_167_128, x_167_131, x_167_134, x_167_135, x_167_138, x_167_140, x_167_142, x_167_143, x_167_146, x_167_149, hkJK_66, hkJK_72, hkJK_87, hkJK_88, hkJK_89, jA_66_36, jA_66_37, jA_66_38, jA_66_8, jL_72, jL_87, jL_88, jL_89, jR_66_36, jR_66_37, jR_66_38, jR_66_8, hkP1_0, hkP1_2, hkP1_u, hkC8, List.map_cons, List.map_nil, List.sum_cons, List.sum_nil, hkCat_0, hkCat_1, hkCat_2, Nat.reduceAdd, Nat.reduceLeDiff, hkPush_s, hkPush_n, true_and, and_true, implies_true, true_implies, not_true_eq_false, not_false_eq_true, false_implies, hkTf_0, hkTf_n1, hkOr01, hkOr11, Int.reduceEq, Int.reduceLT, Int.reduceLE, hk102a, hk102b, hk102c, Nat.reduceEqDiff, or_true, true_or, or_false, false_or, and_false, false_and, Classical.not_not, true_implies, List.set_cons_zero, List.set_cons_succ, ne_eq, hkLe_t ht, hn1, e5, e6, e1, e3, e4, hf1, sx_mIsShape ht hX1, sx_mIsIn, hw, e2]
        clear hw e1 e2 e3 e4 e5 e6
        repeat' (first | exact IH | refine And.intro ?_ ?_ | intro _ | trivial | omega | (exfalso; omega))
      · rw [if_neg h2] at hQ
        have IH := ih (l + 1) came (0, f (fr + l)) g1 (by clear hw e1 e2 e3 e4 e5 e6; omega) (by clear hw e1 e2 e3 e4 e5 e6; omega) (by clear hw e1 e2 e3 e4 e5 e6; omega) (by clear hw e1 e2 e3 e4 e5 e6; omega) hin' k1 hQ
        rw [x_167_65]
        simp only [x_167_67, x_167_69, x_167_72, x_167_73, x_167_76, x_167_78, x_167_79, x_167_82, x_167_83, x_167_84, x_167_85, x_167_86, x_167_87, x_167_88, x_167_91, x_167_93, x_167_94, x_167_95, x_167_98, x_167_100, x_167_101, x_167_102, x_167_103, x_167_104, x_167_106, x_167_107, x_167_108, x_167_110, x_167_111, x_167_113, x_167_116, x_167_119, x_167_121, x_167_122, x_167_125, x_167_128, x_167_131, x_167_134, x_167_135, x_167_138, x_167_140, x_167_142, x_167_143, x_167_146, x_167_149, hkJK_66, hkJK_72, hkJK_87, hkJK_88, hkJK_89, jA_66_36, jA_66_37, jA_66_38, jA_66_8, jL_72, jL_87, jL_88, jL_89, jR_66_36, jR_66_37, jR_66_38, jR_66_8, hkP1_0, hkP1_2, hkP1_u, hkC8, List.map_cons, List.map_nil, List.sum_cons, List.sum_nil, hkCat_0, hkCat_1, hkCat_2, Nat.reduceAdd, Nat.reduceLeDiff, hkPush_s, hkPush_n, true_and, and_true, implies_true, true_implies, not_true_eq_false, not_false_eq_true, false_implies, hkTf_0, hkTf_n1, hkOr01, hkOr11, Int.reduceEq, Int.reduceLT, Int.reduceLE, hk102a, hk102b, hk102c, Nat.reduceEqDiff, or_true, true_or, or_false, false_or, and_false, false_and, Classical.not_not, true_implies, List.set_cons_zero, List.set_cons_succ, ne_eq, hkLe_t ht, hn1, e5, e6, e1, e3, e4, hf1, sx_mIsShape ht hX1, sx_mIsIn, hw, e2]
        clear hw e1 e2 e3 e4 e5 e6
        repeat' (first | exact IH | refine And.intro ?_ ?_ | intro _ | trivial | omega | (exfalso; omega))
    · rw [if_neg hi] at hQ
      have hq := hQ g1 k1 rfl
      by_cases hfr : 0 ≤ fr
      · obtain ⟨e5, e6⟩ : hkW (sz - 1) = sz - 1 ∧ hkW (sz - 1 - fr) = sz - 1 - fr := ⟨hkW_in (by omega) (by omega), hkW_in (by omega) (by omega)⟩
        rw [x_167_65]
        simp only [x_167_67, x_167_69, x_167_72, x_167_73, x_167_76, x_167_78, x_167_79, x_167_82, x_167_83, x_167_84, x_167_85, x_167_86, x_167_87, x_167_88, x_167_91, x_167_93, hkJK_66, hkJK_72, hkJK_87, hkJK_88, hkJK_89, jA_66_36, jA_66_37, jA_66_38, jA_66_8, jL_72, jL_87, jL_88, jL_89, jR_66_36, jR_66_37, jR_66_38, jR_66_8, hkP1_0, hkP1_2, hkP1_u, hkC8, List.map_cons, List.map_nil, List.sum_cons, List.sum_nil, hkCat_0, hkCat_1, hkCat_2, Nat.reduceAdd, Nat.reduceLeDiff, hkPush_s, hkPush_n, true_and, and_true, implies_true, true_implies, not_true_eq_false, not_false_eq_true, false_implies, hkTf_0, hkTf_n1, hkOr01, hkOr11, Int.reduceEq, Int.reduceLT, Int.reduceLE, hk102a, hk102b, hk102c, Nat.reduceEqDiff, or_true, true_or, or_false, false_or, and_false, false_and, Classical.not_not, true_implies, List.set_cons_zero, List.set_cons_succ, ne_eq, hkLe_t ht, hn1, e5, e6]
        clear e5 e6
        repeat' (first | exact hq | refine And.intro ?_ ?_ | intro _ | trivial | omega | (exfalso; omega))
      · rw [x_167_65]
        simp only [x_167_67, x_167_69, x_167_72, x_167_73, hkJK_66, hkJK_72, hkJK_87, hkJK_88, hkJK_89, jA_66_36, jA_66_37, jA_66_38, jA_66_8, jL_72, jL_87, jL_88, jL_89, jR_66_36, jR_66_37, jR_66_38, jR_66_8, hkP1_0, hkP1_2, hkP1_u, hkC8, List.map_cons, List.map_nil, List.sum_cons, List.sum_nil, hkCat_0, hkCat_1, hkCat_2, Nat.reduceAdd, Nat.reduceLeDiff, hkPush_s, hkPush_n, true_and, and_true, implies_true, true_implies, not_true_eq_false, not_false_eq_true, false_implies, hkTf_0, hkTf_n1, hkOr01, hkOr11, Int.reduceEq, Int.reduceLT, Int.reduceLE, hk102a, hk102b, hk102c, Nat.reduceEqDiff, or_true, true_or, or_false, false_or, and_false, false_and, Classical.not_not, true_implies, List.set_cons_zero, List.set_cons_succ, ne_eq, x_167_91, x_167_93, hkJK_66, hkJK_72, hkJK_87, hkJK_88, hkJK_89, jA_66_36, jA_66_37, jA_66_38, jA_66_8, jL_72, jL_87, jL_88, jL_89, jR_66_36, jR_66_37, jR_66_38, jR_66_8, hkP1_0, hkP1_2, hkP1_u, hkC8, List.map_cons, List.map_nil, List.sum_cons, List.sum_nil, hkCat_0, hkCat_1, hkCat_2, Nat.reduceAdd, Nat.reduceLeDiff, hkPush_s, hkPush_n, true_and, and_true, implies_true, true_implies, not_true_eq_false, not_false_eq_true, false_implies, hkTf_0, hkTf_n1, hkOr01, hkOr11, Int.reduceEq, Int.reduceLT, Int.reduceLE, hk102a, hk102b, hk102c, Nat.reduceEqDiff, or_true, true_or, or_false, false_or, and_false, false_and, Classical.not_not, true_implies, List.set_cons_zero, List.set_cons_succ, ne_eq, hkLe_t ht]
        repeat' (first | exact hq | refine And.intro ?_ ?_ | intro _ | trivial | omega | (exfalso; omega))
theorem tie_load {g : hkG} {xs : Int → Int} {L s so fr n : Int} (ht : 190 ≤ t) (hI : inI fr) (hR : Rel xs L g) : Tie xs L 28 (d + 12) [(2, 0), (0, s), (0, so), (0, fr), (0, n), hkU, hkU, hkU, hkU] 167 [(2, 66), (0, s), (0, so), (0, fr), (0, n), hkU, hkU, hkU] t g := by
  obtain ⟨R, N, hb, hr⟩ := id hR
  by_cases hv : (0 ≤ s ∧ s ≤ 3) ∧ (0 ≤ so ∧ so ≤ 1) ∧ (0 ≤ n ∧ n ≤ 40)
  · obtain ⟨⟨s0, s3⟩, ⟨o0, o1⟩, ⟨n0, n1⟩⟩ := id hv
    obtain ⟨a1, a2, a3, a4, a5, a6, a7⟩ := sh_f ht s0 s3
    obtain ⟨c1, c2, c3, c4, c5, c6⟩ := hr.2.2.2.1 s s0 (by omega)
    have C : ∀ Q : Option hkV → Nat → hkG → Prop, Xp 28 (d + 12) 38 [(2, 0), (0, s), (0, so), (0, fr), (0, n), (2, 58 + 2 * s), hkU, hkU, hkU] [] t g Q → Xp 28 (d + 12) 0 [(2, 0), (0, s), (0, so), (0, fr), (0, n), hkU, hkU, hkU, hkU] [] t g Q := by
      intro Q hq
      simp only [x_28_0, x_28_1, x_28_4, x_28_7, x_28_8, x_28_9, x_28_10, x_28_13, x_28_16, x_28_18, x_28_19, x_28_21, x_28_24, x_28_27, x_28_29, x_28_30, x_28_31, x_28_34, x_28_35, x_28_36, hkJK_0, hkJK_1, hkJK_51, hkJK_57, jA_0_0, jA_0_12, jA_0_7, jL_57, jR_0_0, jR_0_12, jR_0_7, hkP1_0, hkP1_2, hkP1_u, hkC8, List.map_cons, List.map_nil, List.sum_cons, List.sum_nil, hkCat_0, hkCat_1, hkCat_2, Nat.reduceAdd, Nat.reduceLeDiff, hkPush_s, hkPush_n, true_and, and_true, implies_true, true_implies, not_true_eq_false, not_false_eq_true, false_implies, hkTf_0, hkTf_n1, hkOr01, hkOr11, Int.reduceEq, Int.reduceLT, Int.reduceLE, hk102a, hk102b, hk102c, Nat.reduceEqDiff, or_true, true_or, or_false, false_or, and_false, false_and, Classical.not_not, true_implies, List.set_cons_zero, List.set_cons_succ, ne_eq, hkLe_t ht, sx_isNoSheet, sx_isOff, hkJK_57, jL_57, a1, a2]
      repeat' (first | exact hq | refine And.intro ?_ ?_ | intro _ | trivial | omega | (exfalso; omega))
    have M0 : ∀ (g : hkG), ∀ (Q : Option hkV → Nat → hkG → Prop), Xp 167 (d + 12) 33 [(2, 66), (0, s), (0, so), (0, fr), (0, n), hkU, hkU, hkU] [] t g Q → Xp 167 (d + 12) 0 [(2, 66), (0, s), (0, so), (0, fr), (0, n), hkU, hkU, hkU] [] t g Q := by
      intro g Q hq
      simp only [x_167_0, x_167_1, x_167_4, x_167_7, x_167_8, x_167_9, x_167_10, x_167_11, x_167_14, x_167_17, x_167_19, x_167_20, x_167_21, x_167_24, x_167_27, x_167_30, x_167_32, hkJK_66, hkJK_72, hkJK_87, hkJK_88, hkJK_89, jA_66_36, jA_66_37, jA_66_38, jA_66_8, jL_72, jL_87, jL_88, jL_89, jR_66_36, jR_66_37, jR_66_38, jR_66_8, hkP1_0, hkP1_2, hkP1_u, hkC8, List.map_cons, List.map_nil, List.sum_cons, List.sum_nil, hkCat_0, hkCat_1, hkCat_2, Nat.reduceAdd, Nat.reduceLeDiff, hkPush_s, hkPush_n, true_and, and_true, implies_true, true_implies, not_true_eq_false, not_false_eq_true, false_implies, hkTf_0, hkTf_n1, hkOr01, hkOr11, Int.reduceEq, Int.reduceLT, Int.reduceLE, hk102a, hk102b, hk102c, Nat.reduceEqDiff, or_true, true_or, or_false, false_or, and_false, false_and, Classical.not_not, true_implies, List.set_cons_zero, List.set_cons_succ, ne_eq, sx_mIsSheet, sx_mIsIn]
      repeat' (first | exact hq | refine And.intro ?_ ?_ | intro _ | trivial | omega | (exfalso; omega))
    by_cases hm : g 87 s = -1
    · refine tie_still (v := (0, -11)) hR (fun Q hq => C Q ?_) (fun Q hq => M0 g Q ?_)
      · simp only [x_28_38, x_28_40, x_28_43, x_28_46, x_28_48, hkJK_0, hkJK_1, hkJK_51, hkJK_57, jA_0_0, jA_0_12, jA_0_7, jL_57, jR_0_0, jR_0_12, jR_0_7, hkP1_0, hkP1_2, hkP1_u, hkC8, List.map_cons, List.map_nil, List.sum_cons, List.sum_nil, hkCat_0, hkCat_1, hkCat_2, Nat.reduceAdd, Nat.reduceLeDiff, hkPush_s, hkPush_n, true_and, and_true, implies_true, true_implies, not_true_eq_false, not_false_eq_true, false_implies, hkTf_0, hkTf_n1, hkOr01, hkOr11, Int.reduceEq, Int.reduceLT, Int.reduceLE, hk102a, hk102b, hk102c, Nat.reduceEqDiff, or_true, true_or, or_false, false_or, and_false, false_and, Classical.not_not, true_implies, List.set_cons_zero, List.set_cons_succ, ne_eq, sx_isMissing a3, c1]
        repeat' (first | exact hq | refine And.intro ?_ ?_ | intro _ | trivial | omega | (exfalso; omega))
      · simp only [x_167_33, x_167_34, x_167_37, x_167_38, x_167_39, x_167_40, x_167_43, x_167_45, hkJK_66, hkJK_72, hkJK_87, hkJK_88, hkJK_89, jA_66_36, jA_66_37, jA_66_38, jA_66_8, jL_72, jL_87, jL_88, jL_89, jR_66_36, jR_66_37, jR_66_38, jR_66_8, hkP1_0, hkP1_2, hkP1_u, hkC8, List.map_cons, List.map_nil, List.sum_cons, List.sum_nil, hkCat_0, hkCat_1, hkCat_2, Nat.reduceAdd, Nat.reduceLeDiff, hkPush_s, hkPush_n, true_and, and_true, implies_true, true_implies, not_true_eq_false, not_false_eq_true, false_implies, hkTf_0, hkTf_n1, hkOr01, hkOr11, Int.reduceEq, Int.reduceLT, Int.reduceLE, hk102a, hk102b, hk102c, Nat.reduceEqDiff, or_true, true_or, or_false, false_or, and_false, false_and, Classical.not_not, true_implies, List.set_cons_zero, List.set_cons_succ, ne_eq, hkLe_t ht]
        repeat' (first | exact hq | refine And.intro ?_ ?_ | intro _ | trivial | omega | (exfalso; omega))
    · by_cases hso : g 87 s = so
      · have hc := bx_C hb.1.1
        have y3 : g 66 2 = bxC R N := (MX_f hb.2.2.2.2.1).2.2.1
        have hinv : smInv (bxC R N) (g 52) (g 72) := fun p p0 p1 => by have h := hr.1 p p0 p1; rw [y3] at h; exact h
        have hld := ldT_ok (C := bxC R N) (sz := g 88 s) (fr := fr) (f := fun k => g 89 (40 * s + k)) (by omega) n.toNat 0 (g 52) (g 72) 0 (by decide) hinv
        have K := l_load (d := d) (t := t) (g := g) (R := R) (N := N) (s := s) (so := so) (fr := fr) (n := n) (sz := g 88 s) (f := fun k => g 89 (40 * s + k)) (Q := fun r t1 g1 => ∃ v, r = some v ∧ t1 = t ∧ Xp 167 (d + 12) 0 [(2, 66), (0, s), (0, so), (0, fr), (0, n), hkU, hkU, hkU] [] t g1 (fun r2 t2 g2 => r2 = some v ∧ t2 = t ∧ Rel xs L g2)) ht s0 s3 hb.1 hI n1 c2 c4 c5 c6 n.toNat 0 0 hkU g (by omega) (by decide) (by decide) (by decide) (Or.inl rfl) (fun _ _ => rfl) (fun g1 k1 e1 => ⟨_, rfl, rfl, M0 g1 _ ?_⟩)
        · refine C _ ?_
          simp only [x_28_38, x_28_40, x_28_43, x_28_46, x_28_48, x_28_49, x_28_51, x_28_54, x_28_55, x_28_58, x_28_60, x_28_61, x_28_62, x_28_64, x_28_65, hkJK_0, hkJK_1, hkJK_51, hkJK_57, jA_0_0, jA_0_12, jA_0_7, jL_57, jR_0_0, jR_0_12, jR_0_7, hkP1_0, hkP1_2, hkP1_u, hkC8, List.map_cons, List.map_nil, List.sum_cons, List.sum_nil, hkCat_0, hkCat_1, hkCat_2, Nat.reduceAdd, Nat.reduceLeDiff, hkPush_s, hkPush_n, true_and, and_true, implies_true, true_implies, not_true_eq_false, not_false_eq_true, false_implies, hkTf_0, hkTf_n1, hkOr01, hkOr11, Int.reduceEq, Int.reduceLT, Int.reduceLE, hk102a, hk102b, hk102c, Nat.reduceEqDiff, or_true, true_or, or_false, false_or, and_false, false_and, Classical.not_not, true_implies, List.set_cons_zero, List.set_cons_succ, ne_eq, sx_isMissing a3, a3, c1]
          repeat' (first | exact K | refine And.intro ?_ ?_ | intro _ | trivial | omega | (exfalso; omega))
        · have hb1 : RB g1 R N := RB_c hb (fun q hq => k1 q (by omega))
          have r87 : g1 87 = g 87 := k1 _ (by decide)
          have r72 : g1 72 = g 72 := k1 _ (by decide)
          have K2 := l_mload (d := d) (t := t) (g := g1) (R := R) (N := N) (s := s) (so := so) (fr := fr) (n := n) (sz := g 88 s) (f := fun k => g 89 (40 * s + k)) (Q := fun r2 t2 g2 => r2 = some (0, (ldT (bxC R N) (g 88 s) fr (fun k => g 89 (40 * s + k)) n.toNat 0 (g 52) 0).1) ∧ t2 = t ∧ Rel xs L g2) ht s0 s3 hb1.2.2.2.2.1 hI n1 (by rw [k1 88 (by decide)]) c4 c5 (fun k _ _ => by rw [k1 89 (by decide)]) n.toNat 0 0 hkU g1 (by omega) (by decide) (by decide) (by decide) (Or.inl rfl) (fun _ _ => rfl) (fun g2 k2 e2 => ?_)
          · simp only [x_167_33, x_167_34, x_167_37, x_167_38, x_167_39, x_167_40, x_167_43, x_167_45, x_167_46, x_167_47, x_167_50, x_167_51, x_167_52, x_167_53, x_167_56, x_167_58, x_167_59, x_167_60, x_167_62, x_167_63, hkJK_66, hkJK_72, hkJK_87, hkJK_88, hkJK_89, jA_66_36, jA_66_37, jA_66_38, jA_66_8, jL_72, jL_87, jL_88, jL_89, jR_66_36, jR_66_37, jR_66_38, jR_66_8, hkP1_0, hkP1_2, hkP1_u, hkC8, List.map_cons, List.map_nil, List.sum_cons, List.sum_nil, hkCat_0, hkCat_1, hkCat_2, Nat.reduceAdd, Nat.reduceLeDiff, hkPush_s, hkPush_n, true_and, and_true, implies_true, true_implies, not_true_eq_false, not_false_eq_true, false_implies, hkTf_0, hkTf_n1, hkOr01, hkOr11, Int.reduceEq, Int.reduceLT, Int.reduceLE, hk102a, hk102b, hk102c, Nat.reduceEqDiff, or_true, true_or, or_false, false_or, and_false, false_and, Classical.not_not, true_implies, List.set_cons_zero, List.set_cons_succ, ne_eq, hkLe_t ht, r87]
            repeat' (first | exact K2 | refine And.intro ?_ ?_ | intro _ | trivial | omega | (exfalso; omega))
          · rw [r72] at e2 ⊢
            have k12 : ∀ q : Int, q ≠ 52 → q ≠ 72 → g2 q = g q := fun q q1 q2 => by rw [k2 q q2, k1 q q1]
            refine ⟨by rw [hld.1], rfl, R, N, RB_s hb1 (fun q q1 q2 => k2 q (by omega)) (fun k _ _ => by rw [k2 66 (by decide)]), fun p p0 p1 => ?_, ?_, ?_, ?_, ?_⟩
            · have h := hld.2 p p0 p1
              rw [k2 52 (by decide), e1, e2, k12 66 (by decide) (by decide), y3]
              exact h
            · exact RK_row hr.2.1 (k12 0 (by decide) (by decide)) (k12 56 (by decide) (by decide)) (k12 73 (by decide) (by decide)) (fun k _ _ => by rw [k12 66 (by decide) (by decide)])
            · exact RT_row hr.2.2.1 (by rw [k12 24 (by decide) (by decide)]) (by rw [k12 24 (by decide) (by decide)]) (k12 27 (by decide) (by decide)) (k12 85 (by decide) (by decide)) (by rw [k12 66 (by decide) (by decide)]) (by rw [k12 66 (by decide) (by decide)])
            · exact RH_row hr.2.2.2.1 (fun q hq => k12 q (by omega) (by omega))
            · exact RL_row hr.2.2.2.2 (k12 (-1) (by decide) (by decide)) (k12 (-2) (by decide) (by decide))
      · refine tie_still (v := (0, -13)) hR (fun Q hq => C Q ?_) (fun Q hq => M0 g Q ?_)
        · simp only [x_28_38, x_28_40, x_28_43, x_28_46, x_28_48, x_28_49, x_28_51, x_28_54, x_28_55, x_28_58, x_28_60, hkJK_0, hkJK_1, hkJK_51, hkJK_57, jA_0_0, jA_0_12, jA_0_7, jL_57, jR_0_0, jR_0_12, jR_0_7, hkP1_0, hkP1_2, hkP1_u, hkC8, List.map_cons, List.map_nil, List.sum_cons, List.sum_nil, hkCat_0, hkCat_1, hkCat_2, Nat.reduceAdd, Nat.reduceLeDiff, hkPush_s, hkPush_n, true_and, and_true, implies_true, true_implies, not_true_eq_false, not_false_eq_true, false_implies, hkTf_0, hkTf_n1, hkOr01, hkOr11, Int.reduceEq, Int.reduceLT, Int.reduceLE, hk102a, hk102b, hk102c, Nat.reduceEqDiff, or_true, true_or, or_false, false_or, and_false, false_and, Classical.not_not, true_implies, List.set_cons_zero, List.set_cons_succ, ne_eq, sx_isMissing a3, a3, c1]
          repeat' (first | exact hq | refine And.intro ?_ ?_ | intro _ | trivial | omega | (exfalso; omega))
        · simp only [x_167_33, x_167_34, x_167_37, x_167_38, x_167_39, x_167_40, x_167_43, x_167_45, x_167_46, x_167_47, x_167_50, x_167_51, x_167_52, x_167_53, x_167_56, x_167_58, hkJK_66, hkJK_72, hkJK_87, hkJK_88, hkJK_89, jA_66_36, jA_66_37, jA_66_38, jA_66_8, jL_72, jL_87, jL_88, jL_89, jR_66_36, jR_66_37, jR_66_38, jR_66_8, hkP1_0, hkP1_2, hkP1_u, hkC8, List.map_cons, List.map_nil, List.sum_cons, List.sum_nil, hkCat_0, hkCat_1, hkCat_2, Nat.reduceAdd, Nat.reduceLeDiff, hkPush_s, hkPush_n, true_and, and_true, implies_true, true_implies, not_true_eq_false, not_false_eq_true, false_implies, hkTf_0, hkTf_n1, hkOr01, hkOr11, Int.reduceEq, Int.reduceLT, Int.reduceLE, hk102a, hk102b, hk102c, Nat.reduceEqDiff, or_true, true_or, or_false, false_or, and_false, false_and, Classical.not_not, true_implies, List.set_cons_zero, List.set_cons_succ, ne_eq, hkLe_t ht]
          repeat' (first | exact hq | refine And.intro ?_ ?_ | intro _ | trivial | omega | (exfalso; omega))
  · refine tie_still (v := (0, -2)) hR (fun Q hq => ?_) (fun Q hq => ?_)
    · simp only [x_28_0, x_28_1, x_28_4, x_28_7, x_28_8, x_28_9, x_28_10, x_28_13, x_28_16, x_28_18, x_28_19, x_28_21, x_28_24, x_28_27, x_28_29, hkJK_0, hkJK_1, hkJK_51, hkJK_57, jA_0_0, jA_0_12, jA_0_7, jL_57, jR_0_0, jR_0_12, jR_0_7, hkP1_0, hkP1_2, hkP1_u, hkC8, List.map_cons, List.map_nil, List.sum_cons, List.sum_nil, hkCat_0, hkCat_1, hkCat_2, Nat.reduceAdd, Nat.reduceLeDiff, hkPush_s, hkPush_n, true_and, and_true, implies_true, true_implies, not_true_eq_false, not_false_eq_true, false_implies, hkTf_0, hkTf_n1, hkOr01, hkOr11, Int.reduceEq, Int.reduceLT, Int.reduceLE, hk102a, hk102b, hk102c, Nat.reduceEqDiff, or_true, true_or, or_false, false_or, and_false, false_and, Classical.not_not, true_implies, List.set_cons_zero, List.set_cons_succ, ne_eq, sx_isNoSheet, sx_isOff]
      repeat' (first | exact hq | refine And.intro ?_ ?_ | intro _ | trivial | omega | (exfalso; omega))
    · simp only [x_167_0, x_167_1, x_167_4, x_167_7, x_167_8, x_167_9, x_167_10, x_167_11, x_167_14, x_167_17, x_167_19, x_167_20, x_167_21, x_167_24, x_167_27, x_167_30, x_167_32, hkJK_66, hkJK_72, hkJK_87, hkJK_88, hkJK_89, jA_66_36, jA_66_37, jA_66_38, jA_66_8, jL_72, jL_87, jL_88, jL_89, jR_66_36, jR_66_37, jR_66_38, jR_66_8, hkP1_0, hkP1_2, hkP1_u, hkC8, List.map_cons, List.map_nil, List.sum_cons, List.sum_nil, hkCat_0, hkCat_1, hkCat_2, Nat.reduceAdd, Nat.reduceLeDiff, hkPush_s, hkPush_n, true_and, and_true, implies_true, true_implies, not_true_eq_false, not_false_eq_true, false_implies, hkTf_0, hkTf_n1, hkOr01, hkOr11, Int.reduceEq, Int.reduceLT, Int.reduceLE, hk102a, hk102b, hk102c, Nat.reduceEqDiff, or_true, true_or, or_false, false_or, and_false, false_and, Classical.not_not, true_implies, List.set_cons_zero, List.set_cons_succ, ne_eq, sx_mIsSheet, sx_mIsIn]
      repeat' (first | exact hq | refine And.intro ?_ ?_ | intro _ | trivial | omega | (exfalso; omega))
end SP
