/-! ties: read -/
theorem Rel_rd {g g' : hkG} {xs : Int → Int} {L R N : Int} (hb : RB g' R N) (k : ∀ q : Int, ¬ scr q → q ≠ 52 → q ≠ 72 → g' q = g q) (k66 : ∀ k : Int, fld k → k ≠ 12 → k ≠ 32 → g' 66 k = g 66 k) (k0 : g' 24 0 = 0) (k32 : g' 66 32 = 0) (k1 : g' 24 1 = g' 66 12) (hS : RS g') (hr : RS g ∧ RK g ∧ RT g ∧ RH g ∧ RL xs L g) : Rel xs L g' := by
  obtain ⟨h1, h2, h3, h4, h5⟩ := hr
  refine ⟨R, N, hb, hS, ?_, ⟨by rw [k0, k32], by rw [k32]; decide, by rw [k32]; decide, fun x x0 x1 => by rw [k32] at x1; omega, k1⟩, ?_, ?_⟩
  · unfold RK
    rw [k 0 (by unfold scr; omega) (by decide) (by decide), k 56 (by unfold scr; omega) (by decide) (by decide), k 73 (by unfold scr; omega) (by decide) (by decide), k66 10 (by unfold fld; omega) (by decide) (by decide), k66 11 (by unfold fld; omega) (by decide) (by decide), k66 13 (by unfold fld; omega) (by decide) (by decide)]
    exact h2
  · exact RH_row h4 (fun q hq => k q (by unfold scr; omega) (by omega) (by omega))
  · exact RL_row h5 (k (-1) (by unfold scr; omega) (by decide) (by decide)) (k (-2) (by unfold scr; omega) (by decide) (by decide))
def rdOk (F : Int) (r : evT) : Prop := r.1 ≠ -1 ∧ ¬ r.2.1 < F
section SP
variable {t d : Nat} {R N F : Int} {T : Int → Int} {Q : Option hkV → Nat → hkG → Prop}
theorem sx_readTape {g : hkG} (ht : 190 ≤ t) (F0 : 0 ≤ F) (F60 : F ≤ 60) (hb : RB g R N) (h0 : g 24 0 = F) (hT : ∀ k : Int, 0 ≤ k → k < F → g 27 k = T k) {r : evT} (hev : ev R N F T 300 2 0 0 0 False (fun _ => 0) = some r)
    (hF : ¬ rdOk F r → ∀ g' : hkG, (∀ q : Int, q ≠ 14 → q ≠ 15 → q ≠ 23 → q ≠ 24 → ¬ (28 ≤ q ∧ q ≤ 49) → g' q = g q) → RB g' R N → g' 24 0 = 0 → g' 24 1 = g 24 1 → g' 24 2 = r.2.1 → Q none t g')
    (hO : rdOk F r → ∀ g' : hkG, (∀ q : Int, q ≠ 14 → q ≠ 15 → q ≠ 23 → q ≠ 24 → ¬ (28 ≤ q ∧ q ≤ 49) → g' q = g q) → RB g' R N → g' 24 0 = 0 → g' 24 1 = r.1 → g' 24 2 = -1 → g' 24 3 = hkTf r.2.2.1 → (¬ r.2.2.1 → gvec (bxC R N) r.2.2.2 ∧ ∀ p : Int, 0 ≤ p → p < 280 → g' 29 p = r.2.2.2 p) → Q none t g') :
    Xp 76 (d + 28) 0 [(2, 24), hkU] [] t g Q := by
  have hbd := ev_bd 300 2 0 0 0 False (fun _ => 0) r (by decide) F0 (fun h => absurd h (by decide)) hev
  rw [if_neg (by decide)] at hbd
  have hS : cSt R N F T 0 False (hkSet (hkSet (hkSet g 24 7 0) 24 2 (-1)) 24 3 0) := by
    refine ⟨RB_c hb (fun q hq => by rw [hkSet_row (by omega), hkSet_row (by omega), hkSet_row (by omega)]), ?_, fun k k0 k1 => ?_, ?_, ?_, ?_⟩
    · rw [hkSet_rd, if_neg (by decide), hkSet_rd, if_neg (by decide), hkSet_rd, if_neg (by decide)]; exact h0
    · rw [hkSet_row (by decide), hkSet_row (by decide), hkSet_row (by decide)]; exact hT k k0 k1
    · rw [hkSet_rd, if_neg (by decide), hkSet_rd, if_pos ⟨rfl, rfl⟩]
    · rw [hkSet_rd, if_neg (by decide), hkSet_rd, if_neg (by decide), hkSet_rd, if_pos ⟨rfl, rfl⟩]
    · rw [hkSet_rd, if_pos ⟨rfl, rfl⟩, hkTf_f (fun h => h)]
  have k0 : cKp (0 - 1) (0 - 1) g (hkSet (hkSet (hkSet g 24 7 0) 24 2 (-1)) 24 3 0) := cKp_t (cKp_t (cKp_24 (by decide)) (cKp_24 (by decide))) (cKp_24 (by decide))
  have K : Xp 77 (d + 27) 0 [(2, 24), (0, 0), hkU, hkU, hkU] [] t (hkSet (hkSet (hkSet g 24 7 0) 24 2 (-1)) 24 3 0) (fun r2 t2 g2 => Xp 76 (d + 27 + 1) 20 [(2, 24), hkU] (hkPush r2 []) t2 g2 Q) := (c_all ht F60 300).2.2.1 4 d 0 0 _ False (fun _ => 0) r _ (by decide) (by decide) hS (by decide) F0 hev (fun v g2 k2 P2 => by
    have k2' := cKp_t k0 k2
    have f : ∀ q : Int, q ≠ 14 → q ≠ 15 → q ≠ 23 → q ≠ 24 → ¬ (28 ≤ q ∧ q ≤ 49) → g2 q = g q := k2'.1
    have e0 : g2 24 0 = F := by rw [k2'.2.1 0 (by decide)]; exact h0
    have e1 : g2 24 1 = g 24 1 := k2'.2.1 1 (by decide)
    by_cases hf : r.1 = -1
    · have h22 : g2 24 2 = r.2.1 := by
        rcases P2.2 with h | h
        · exact h.2
        · exact absurd hf h.1
      have hne : g2 24 2 ≠ -1 := by rw [h22]; omega
      have hq := hF (fun h => h.1 hf) (hkSet g2 24 0 0) (fun q a b c d e => by rw [hkSet_row d]; exact f q a b c d e) (RB_c P2.1 (fun q hq => hkSet_row (by omega))) (by rw [hkSet_rd, if_pos ⟨rfl, rfl⟩]) (by rw [hkSet_rd, if_neg (by decide)]; exact e1) (by rw [hkSet_rd, if_neg (by decide)]; exact h22)
      have K40 : Xp 76 (d + 27 + 1) 40 [(2, 24), (0, v)] [] t g2 Q := by
        simp only [x_76_40, x_76_41, x_76_44, x_76_45, hkJK_24, hkP1_0, hkP1_2, hkP1_u, hkC8, List.map_cons, List.map_nil, List.sum_cons, List.sum_nil, hkCat_0, hkCat_1, hkCat_2, Nat.reduceAdd, Nat.reduceLeDiff, hkPush_s, hkPush_n, true_and, and_true, implies_true, true_implies, not_true_eq_false, not_false_eq_true, false_implies, hkTf_0, hkTf_n1, hkOr01, hkOr11, Int.reduceEq, Int.reduceLT, Int.reduceLE, hk102a, hk102b, hk102c, Nat.reduceEqDiff, or_true, true_or, or_false, false_or, and_false, false_and, Classical.not_not, true_implies, List.set_cons_zero, List.set_cons_succ, ne_eq, x_76_53, x_76_54, x_76_55, x_76_58, hkJK_24, hkP1_0, hkP1_2, hkP1_u, hkC8, List.map_cons, List.map_nil, List.sum_cons, List.sum_nil, hkCat_0, hkCat_1, hkCat_2, Nat.reduceAdd, Nat.reduceLeDiff, hkPush_s, hkPush_n, true_and, and_true, implies_true, true_implies, not_true_eq_false, not_false_eq_true, false_implies, hkTf_0, hkTf_n1, hkOr01, hkOr11, Int.reduceEq, Int.reduceLT, Int.reduceLE, hk102a, hk102b, hk102c, Nat.reduceEqDiff, or_true, true_or, or_false, false_or, and_false, false_and, Classical.not_not, true_implies, List.set_cons_zero, List.set_cons_succ, ne_eq]
        repeat' (first | exact hq | refine And.intro ?_ ?_ | intro _ | trivial | omega | (exfalso; omega))
      simp only [x_76_20, x_76_21, x_76_22, x_76_25, x_76_26, x_76_29, x_76_32, x_76_33, x_76_34, x_76_37, hkJK_24, hkP1_0, hkP1_2, hkP1_u, hkC8, List.map_cons, List.map_nil, List.sum_cons, List.sum_nil, hkCat_0, hkCat_1, hkCat_2, Nat.reduceAdd, Nat.reduceLeDiff, hkPush_s, hkPush_n, true_and, and_true, implies_true, true_implies, not_true_eq_false, not_false_eq_true, false_implies, hkTf_0, hkTf_n1, hkOr01, hkOr11, Int.reduceEq, Int.reduceLT, Int.reduceLE, hk102a, hk102b, hk102c, Nat.reduceEqDiff, or_true, true_or, or_false, false_or, and_false, false_and, Classical.not_not, true_implies, List.set_cons_zero, List.set_cons_succ, ne_eq, sx_fail1 hne]
      repeat' (first | exact K40 | refine And.intro ?_ ?_ | intro _ | trivial | omega | (exfalso; omega))
    · rcases P2.2 with h | ⟨-, h1, h2, h3, h4, h5⟩
      · exact absurd h.1 hf
      · subst h1
        by_cases hp : r.2.1 < F
        · have hq := hF (fun h => h.2 hp) (hkSet (hkSet g2 24 2 r.2.1) 24 0 0) (fun q a b c d e => by rw [hkSet_row d, hkSet_row d]; exact f q a b c d e) (RB_c P2.1 (fun q hq => by rw [hkSet_row (by omega), hkSet_row (by omega)])) (by rw [hkSet_rd, if_pos ⟨rfl, rfl⟩]) (by rw [hkSet_rd, if_neg (by decide), hkSet_rd, if_neg (by decide)]; exact e1) (by rw [hkSet_rd, if_neg (by decide), hkSet_rd, if_pos ⟨rfl, rfl⟩])
          have hne : hkSet g2 24 2 r.2.1 24 2 ≠ -1 := by rw [hkSet_rd, if_pos ⟨rfl, rfl⟩]; omega
          have K40 : Xp 76 (d + 27 + 1) 40 [(2, 24), (0, r.1)] [] t (hkSet g2 24 2 r.2.1) Q := by
            simp only [x_76_40, x_76_41, x_76_44, x_76_45, hkJK_24, hkP1_0, hkP1_2, hkP1_u, hkC8, List.map_cons, List.map_nil, List.sum_cons, List.sum_nil, hkCat_0, hkCat_1, hkCat_2, Nat.reduceAdd, Nat.reduceLeDiff, hkPush_s, hkPush_n, true_and, and_true, implies_true, true_implies, not_true_eq_false, not_false_eq_true, false_implies, hkTf_0, hkTf_n1, hkOr01, hkOr11, Int.reduceEq, Int.reduceLT, Int.reduceLE, hk102a, hk102b, hk102c, Nat.reduceEqDiff, or_true, true_or, or_false, false_or, and_false, false_and, Classical.not_not, true_implies, List.set_cons_zero, List.set_cons_succ, ne_eq, x_76_53, x_76_54, x_76_55, x_76_58, hkJK_24, hkP1_0, hkP1_2, hkP1_u, hkC8, List.map_cons, List.map_nil, List.sum_cons, List.sum_nil, hkCat_0, hkCat_1, hkCat_2, Nat.reduceAdd, Nat.reduceLeDiff, hkPush_s, hkPush_n, true_and, and_true, implies_true, true_implies, not_true_eq_false, not_false_eq_true, false_implies, hkTf_0, hkTf_n1, hkOr01, hkOr11, Int.reduceEq, Int.reduceLT, Int.reduceLE, hk102a, hk102b, hk102c, Nat.reduceEqDiff, or_true, true_or, or_false, false_or, and_false, false_and, Classical.not_not, true_implies, List.set_cons_zero, List.set_cons_succ, ne_eq]
            repeat' (first | exact hq | refine And.intro ?_ ?_ | intro _ | trivial | omega | (exfalso; omega))
          simp only [x_76_20, x_76_21, x_76_22, x_76_25, x_76_26, x_76_29, x_76_32, x_76_33, x_76_34, x_76_37, hkJK_24, hkP1_0, hkP1_2, hkP1_u, hkC8, List.map_cons, List.map_nil, List.sum_cons, List.sum_nil, hkCat_0, hkCat_1, hkCat_2, Nat.reduceAdd, Nat.reduceLeDiff, hkPush_s, hkPush_n, true_and, and_true, implies_true, true_implies, not_true_eq_false, not_false_eq_true, false_implies, hkTf_0, hkTf_n1, hkOr01, hkOr11, Int.reduceEq, Int.reduceLT, Int.reduceLE, hk102a, hk102b, hk102c, Nat.reduceEqDiff, or_true, true_or, or_false, false_or, and_false, false_and, Classical.not_not, true_implies, List.set_cons_zero, List.set_cons_succ, ne_eq, e0, h3, sx_fail0 h2]
          repeat' (first | exact K40 | refine And.intro ?_ ?_ | intro _ | trivial | omega | (exfalso; omega))
        · have g24 : ∀ k : Int, k ≠ 0 → k ≠ 1 → hkSet (hkSet g2 24 1 r.1) 24 0 0 24 k = g2 24 k := fun k a b => by rw [hkSet_rd, if_neg (fun h => a h.2), hkSet_rd, if_neg (fun h => b h.2)]
          have hq := hO ⟨hf, hp⟩ (hkSet (hkSet g2 24 1 r.1) 24 0 0) (fun q a b c d e => by rw [hkSet_row d, hkSet_row d]; exact f q a b c d e) (RB_c P2.1 (fun q hq => by rw [hkSet_row (by omega), hkSet_row (by omega)])) (by rw [hkSet_rd, if_pos ⟨rfl, rfl⟩]) (by rw [hkSet_rd, if_neg (by decide), hkSet_rd, if_pos ⟨rfl, rfl⟩]) (by rw [g24 2 (by decide) (by decide)]; exact h2) (by rw [g24 3 (by decide) (by decide)]; exact h4) (fun hs => ⟨(h5 hs).1, fun p a b => by rw [hkSet_row (by decide), hkSet_row (by decide)]; exact (h5 hs).2 p a b⟩)
          have K40 : Xp 76 (d + 27 + 1) 40 [(2, 24), (0, r.1)] [] t g2 Q := by
            simp only [x_76_40, x_76_41, x_76_44, x_76_45, x_76_48, x_76_49, x_76_50, x_76_53, x_76_54, x_76_55, x_76_58, hkJK_24, hkP1_0, hkP1_2, hkP1_u, hkC8, List.map_cons, List.map_nil, List.sum_cons, List.sum_nil, hkCat_0, hkCat_1, hkCat_2, Nat.reduceAdd, Nat.reduceLeDiff, hkPush_s, hkPush_n, true_and, and_true, implies_true, true_implies, not_true_eq_false, not_false_eq_true, false_implies, hkTf_0, hkTf_n1, hkOr01, hkOr11, Int.reduceEq, Int.reduceLT, Int.reduceLE, hk102a, hk102b, hk102c, Nat.reduceEqDiff, or_true, true_or, or_false, false_or, and_false, false_and, Classical.not_not, true_implies, List.set_cons_zero, List.set_cons_succ, ne_eq, h2]
            repeat' (first | exact hq | refine And.intro ?_ ?_ | intro _ | trivial | omega | (exfalso; omega))
          simp only [x_76_20, x_76_21, x_76_22, x_76_25, x_76_26, x_76_29, x_76_32, x_76_33, x_76_34, x_76_37, hkJK_24, hkP1_0, hkP1_2, hkP1_u, hkC8, List.map_cons, List.map_nil, List.sum_cons, List.sum_nil, hkCat_0, hkCat_1, hkCat_2, Nat.reduceAdd, Nat.reduceLeDiff, hkPush_s, hkPush_n, true_and, and_true, implies_true, true_implies, not_true_eq_false, not_false_eq_true, false_implies, hkTf_0, hkTf_n1, hkOr01, hkOr11, Int.reduceEq, Int.reduceLT, Int.reduceLE, hk102a, hk102b, hk102c, Nat.reduceEqDiff, or_true, true_or, or_false, false_or, and_false, false_and, Classical.not_not, true_implies, List.set_cons_zero, List.set_cons_succ, ne_eq, e0, h3]
          repeat' (first | exact K40 | refine And.intro ?_ ?_ | intro _ | trivial | omega | (exfalso; omega)))
  simp only [x_76_0, x_76_1, x_76_2, x_76_5, x_76_6, x_76_7, x_76_10, x_76_11, x_76_12, x_76_15, x_76_16, x_76_17, hkJK_24, hkP1_0, hkP1_2, hkP1_u, hkC8, List.map_cons, List.map_nil, List.sum_cons, List.sum_nil, hkCat_0, hkCat_1, hkCat_2, Nat.reduceAdd, Nat.reduceLeDiff, hkPush_s, hkPush_n, true_and, and_true, implies_true, true_implies, not_true_eq_false, not_false_eq_true, false_implies, hkTf_0, hkTf_n1, hkOr01, hkOr11, Int.reduceEq, Int.reduceLT, Int.reduceLE, hk102a, hk102b, hk102c, Nat.reduceEqDiff, or_true, true_or, or_false, false_or, and_false, false_and, Classical.not_not, true_implies, List.set_cons_zero, List.set_cons_succ, ne_eq]
  repeat' (first | exact K | refine And.intro ?_ ?_ | intro _ | trivial | omega | (exfalso; omega))
theorem sx_goes {g : hkG} (ht : 190 ≤ t) (F0 : 0 ≤ F) (F60 : F ≤ 60) (hb : RB g R N) (h32 : g 66 32 = F) (hT : ∀ k : Int, 0 ≤ k → k < F → g 85 k = T k) {r : evT} (hev : ev R N F T 300 2 0 0 0 False (fun _ => 0) = some r) {w : Int} (hw : w = 0 ∨ w = 1)
    (hF : ¬ rdOk F r → ∀ g' : hkG, mKp 0 g g' → RB g' R N → g' 66 33 = r.2.1 → Q (some (0, -1)) t g')
    (hO : rdOk F r → ∀ g' : hkG, mKp 0 g g' → RB g' R N → (w = 1 → g' 66 29 = hkTf r.2.2.1 ∧ gvec (bxC R N) (hnd g' 0) ∧ (¬ r.2.2.1 → ∀ p : Int, 0 ≤ p → p < 280 → hnd g' 0 p = r.2.2.2 p)) → Q (some (0, r.1)) t g') :
    Xp 150 (d + 27) 0 [(2, 66), (0, w), hkU] [] t g Q := by
  have hS : mSt R N F T 0 0 False w (hkSet (hkSet (hkSet g 66 33 0) 66 34 0) 66 29 0) := by
    refine ⟨RB_s hb (fun q q1 q2 => by rw [hkSet_row q2, hkSet_row q2, hkSet_row q2]) (fun k _ _ => by rw [hkSet_rd, if_neg (by omega), hkSet_rd, if_neg (by omega), hkSet_rd, if_neg (by omega)]), ?_, fun k k0 k1 => ?_, ?_, ?_, fun _ => ?_⟩
    · rw [hkSet_rd, if_neg (by decide), hkSet_rd, if_neg (by decide), hkSet_rd, if_neg (by decide)]; exact h32
    · rw [hkSet_row (by decide), hkSet_row (by decide), hkSet_row (by decide)]; exact hT k k0 k1
    · rw [hkSet_rd, if_neg (by decide), hkSet_rd, if_neg (by decide), hkSet_rd, if_pos ⟨rfl, rfl⟩]
    · rw [hkSet_rd, if_neg (by decide), hkSet_rd, if_pos ⟨rfl, rfl⟩]
    · rw [hkSet_rd, if_pos ⟨rfl, rfl⟩, hkTf_f (fun h => h)]
  have k0 : mKp 0 g (hkSet (hkSet (hkSet g 66 33 0) 66 34 0) 66 29 0) := mKp_t (mKp_t (mKp_f (by decide)) (mKp_f (by decide))) (mKp_f (by decide))
  have K : Xp 151 (d + 26) 0 [(2, 66), (0, 0), (0, w), hkU, hkU, hkU] [] t (hkSet (hkSet (hkSet g 66 33 0) 66 34 0) 66 29 0) (fun r2 t2 g2 => Xp 150 (d + 26 + 1) 21 [(2, 66), (0, w), hkU] (hkPush r2 []) t2 g2 Q) := (m_all ht F60 300).2.2.1 4 d 0 w 0 0 _ False (fun _ => 0) r _ (by decide) (by decide) (by decide) (by decide) hw hS (by decide) F0 hev (fun v g2 k2 P2 => by
    have k2' := mKp_t k0 k2
    have e32 : g2 66 32 = F := by rw [k2'.2.1 32 (by decide)]; exact h32
    have e33 := P2.2.2.1
    have hv := P2.2.1
    subst hv
    by_cases hf : r.1 = -1
    · have hq := hF (fun h => h.1 hf) g2 k2' P2.1 e33
      simp only [x_150_21, x_150_22, x_150_23, x_150_24, x_150_27, x_150_28, x_150_31, x_150_32, x_150_35, x_150_38, x_150_39, x_150_42, x_150_43, hkJK_66, hkP1_0, hkP1_2, hkP1_u, hkC8, List.map_cons, List.map_nil, List.sum_cons, List.sum_nil, hkCat_0, hkCat_1, hkCat_2, Nat.reduceAdd, Nat.reduceLeDiff, hkPush_s, hkPush_n, true_and, and_true, implies_true, true_implies, not_true_eq_false, not_false_eq_true, false_implies, hkTf_0, hkTf_n1, hkOr01, hkOr11, Int.reduceEq, Int.reduceLT, Int.reduceLE, hk102a, hk102b, hk102c, Nat.reduceEqDiff, or_true, true_or, or_false, false_or, and_false, false_and, Classical.not_not, true_implies, List.set_cons_zero, List.set_cons_succ, ne_eq, hf]
      repeat' (first | exact hq | refine And.intro ?_ ?_ | intro _ | trivial | omega | (exfalso; omega))
    · by_cases hp : r.2.1 < F
      · have hq := hF (fun h => h.2 hp) g2 k2' P2.1 e33
        simp only [x_150_21, x_150_22, x_150_23, x_150_24, x_150_27, x_150_28, x_150_31, x_150_32, x_150_35, x_150_38, x_150_39, x_150_42, x_150_43, hkJK_66, hkP1_0, hkP1_2, hkP1_u, hkC8, List.map_cons, List.map_nil, List.sum_cons, List.sum_nil, hkCat_0, hkCat_1, hkCat_2, Nat.reduceAdd, Nat.reduceLeDiff, hkPush_s, hkPush_n, true_and, and_true, implies_true, true_implies, not_true_eq_false, not_false_eq_true, false_implies, hkTf_0, hkTf_n1, hkOr01, hkOr11, Int.reduceEq, Int.reduceLT, Int.reduceLE, hk102a, hk102b, hk102c, Nat.reduceEqDiff, or_true, true_or, or_false, false_or, and_false, false_and, Classical.not_not, true_implies, List.set_cons_zero, List.set_cons_succ, ne_eq, e32, e33]
        repeat' (first | exact hq | refine And.intro ?_ ?_ | intro _ | trivial | omega | (exfalso; omega))
      · have hq := hO ⟨hf, hp⟩ g2 k2' P2.1 (P2.2.2.2 hf).2
        simp only [x_150_21, x_150_22, x_150_23, x_150_24, x_150_27, x_150_28, x_150_31, x_150_32, x_150_35, x_150_38, x_150_39, x_150_42, x_150_43, hkJK_66, hkP1_0, hkP1_2, hkP1_u, hkC8, List.map_cons, List.map_nil, List.sum_cons, List.sum_nil, hkCat_0, hkCat_1, hkCat_2, Nat.reduceAdd, Nat.reduceLeDiff, hkPush_s, hkPush_n, true_and, and_true, implies_true, true_implies, not_true_eq_false, not_false_eq_true, false_implies, hkTf_0, hkTf_n1, hkOr01, hkOr11, Int.reduceEq, Int.reduceLT, Int.reduceLE, hk102a, hk102b, hk102c, Nat.reduceEqDiff, or_true, true_or, or_false, false_or, and_false, false_and, Classical.not_not, true_implies, List.set_cons_zero, List.set_cons_succ, ne_eq, e32, e33]
        repeat' (first | exact hq | refine And.intro ?_ ?_ | intro _ | trivial | omega | (exfalso; omega)))
  simp only [x_150_0, x_150_1, x_150_2, x_150_5, x_150_6, x_150_7, x_150_10, x_150_11, x_150_12, x_150_15, x_150_16, x_150_17, x_150_18, hkJK_66, hkP1_0, hkP1_2, hkP1_u, hkC8, List.map_cons, List.map_nil, List.sum_cons, List.sum_nil, hkCat_0, hkCat_1, hkCat_2, Nat.reduceAdd, Nat.reduceLeDiff, hkPush_s, hkPush_n, true_and, and_true, implies_true, true_implies, not_true_eq_false, not_false_eq_true, false_implies, hkTf_0, hkTf_n1, hkOr01, hkOr11, Int.reduceEq, Int.reduceLT, Int.reduceLE, hk102a, hk102b, hk102c, Nat.reduceEqDiff, or_true, true_or, or_false, false_or, and_false, false_and, Classical.not_not, true_implies, List.set_cons_zero, List.set_cons_succ, ne_eq]
  repeat' (first | exact K | refine And.intro ?_ ?_ | intro _ | trivial | omega | (exfalso; omega))
theorem tie_read {g : hkG} {xs : Int → Int} {L : Int} (ht : 190 ≤ t) (hR : Rel xs L g) : Tie xs L 20 (d + 29) [(2, 0)] 149 [(2, 66), hkU] t g := by
  obtain ⟨R, N, hb, hr⟩ := id hR
  obtain ⟨t1, t2, t3, t4, t5⟩ := hr.2.2.1
  generalize hF' : g 66 32 = F at t1 t2 t3 t4
  have hc := bx_C hb.1.1
  have y3 : g 66 2 = bxC R N := (MX_f hb.2.2.2.2.1).2.2.1
  obtain ⟨r, hev⟩ := ev_ex (R := R) (N := N) (F := F) (T := fun k => g 85 k) 300 2 0 0 0 False (fun _ => 0) (by decide) t2 (fun h => absurd h (by decide)) (by have w : evW 2 = 3 := rfl; rw [w]; omega)
  have hbd := ev_bd 300 2 0 0 0 False (fun _ => 0) r (by decide) t2 (fun h => absurd h (by decide)) hev
  rw [if_neg (by decide)] at hbd
  have hsm0 : smOk 28 29 := sm_t (l := 0) (by decide) (by decide)
  -- frames
  have clsR : ∀ g1 : hkG, (∀ q : Int, q ≠ 14 → q ≠ 15 → q ≠ 23 → q ≠ 24 → ¬ (28 ≤ q ∧ q ≤ 49) → g1 q = g q) → ∀ q : Int, ¬ scr q → q ≠ 24 → g1 q = g q := fun g1 k q h h24 => k q (by unfold scr at h; omega) (by unfold scr at h; omega) (by unfold scr at h; omega) h24 (by unfold scr at h; omega)
  have mdlR : ∀ g1 g2 : hkG, mKp 0 g1 g2 → ∀ q : Int, ¬ scr q → g2 q = g1 q := fun g1 g2 k q h => k.1 q (by unfold scr at h; omega)
  have mdlF : ∀ g1 g2 : hkG, mKp 0 g1 g2 → ∀ k : Int, fld k → g2 66 k = g1 66 k := fun g1 g2 k j h => k.2.1 j (by unfold fld at h; omega)
  have C : ∀ Q : Option hkV → Nat → hkG → Prop, (¬ rdOk F r → ∀ g1 : hkG, (∀ q : Int, q ≠ 14 → q ≠ 15 → q ≠ 23 → q ≠ 24 → ¬ (28 ≤ q ∧ q ≤ 49) → g1 q = g q) → RB g1 R N → g1 24 0 = 0 → g1 24 1 = g 24 1 → Q (some (0, -100 - r.2.1)) t g1) → (rdOk F r → r.2.2.1 → ∀ g1 : hkG, (∀ q : Int, q ≠ 14 → q ≠ 15 → q ≠ 23 → q ≠ 24 → ¬ (28 ≤ q ∧ q ≤ 49) → g1 q = g q) → RB g1 R N → g1 24 0 = 0 → g1 24 1 = r.1 → Q (some (0, -3)) t g1) → (rdOk F r → ¬ r.2.2.1 → ∀ g1 : hkG, (∀ q : Int, q ≠ 14 → q ≠ 15 → q ≠ 23 → q ≠ 24 → ¬ (28 ≤ q ∧ q ≤ 49) → q ≠ 52 → g1 q = g q) → RB g1 R N → g1 24 0 = 0 → g1 24 1 = r.1 → gvec (bxC R N) r.2.2.2 → (∀ p : Int, 0 ≤ p → p < 280 → g1 52 p = r.2.2.2 p) → Q (some (0, cnS (g1 52) 280)) t g1) → Xp 20 (d + 29) 0 [(2, 0)] [] t g Q := by
    intro Q q1 q2 q3
    simp only [x_20_0, x_20_1, x_20_4, hkJK_0, hkJK_24, hkJK_25, hkJK_51, jA_0_5, jA_0_7, jA_24_4, jL_25, jR_0_5, jR_0_7, jR_24_4, hkP1_0, hkP1_2, hkP1_u, hkC8, List.map_cons, List.map_nil, List.sum_cons, List.sum_nil, hkCat_0, hkCat_1, hkCat_2, Nat.reduceAdd, Nat.reduceLeDiff, hkPush_s, hkPush_n, true_and, and_true, implies_true, true_implies, not_true_eq_false, not_false_eq_true, false_implies, hkTf_0, hkTf_n1, hkOr01, hkOr11, Int.reduceEq, Int.reduceLT, Int.reduceLE, hk102a, hk102b, hk102c, Nat.reduceEqDiff, or_true, true_or, or_false, false_or, and_false, false_and, Classical.not_not, true_implies, List.set_cons_zero, List.set_cons_succ, ne_eq, hkLe_t ht]
    refine sx_readTape (d := d) ht t2 t3 hb t1 (fun k k0 k1 => (t4 k k0 k1).1) hev (fun h g1 k1 hb1 a0 a1 a2 => ?_) (fun h g1 k1 hb1 a0 a1 a2 a3 a4 => ?_)
    · have hq := q1 h g1 k1 hb1 a0 a1
      have hw : hkW (-100 - r.2.1) = -100 - r.2.1 := hkW_in (by omega) (by omega)
      simp only [x_20_7, x_20_8, x_20_11, x_20_14, x_20_15, x_20_18, x_20_20, x_20_21, x_20_24, x_20_27, x_20_28, hkJK_0, hkJK_24, hkJK_25, hkJK_51, jA_0_5, jA_0_7, jA_24_4, jL_25, jR_0_5, jR_0_7, jR_24_4, hkP1_0, hkP1_2, hkP1_u, hkC8, List.map_cons, List.map_nil, List.sum_cons, List.sum_nil, hkCat_0, hkCat_1, hkCat_2, Nat.reduceAdd, Nat.reduceLeDiff, hkPush_s, hkPush_n, true_and, and_true, implies_true, true_implies, not_true_eq_false, not_false_eq_true, false_implies, hkTf_0, hkTf_n1, hkOr01, hkOr11, Int.reduceEq, Int.reduceLT, Int.reduceLE, hk102a, hk102b, hk102c, Nat.reduceEqDiff, or_true, true_or, or_false, false_or, and_false, false_and, Classical.not_not, true_implies, List.set_cons_zero, List.set_cons_succ, ne_eq, hkLe_t ht, a2, hw]
      clear hw
      repeat' (first | exact hq | refine And.intro ?_ ?_ | intro _ | trivial | omega | (exfalso; omega))
    · by_cases hs : r.2.2.1
      · have hq := q2 h hs g1 k1 hb1 a0 a1
        rw [hkTf_t hs] at a3
        simp only [x_20_7, x_20_8, x_20_11, x_20_14, x_20_15, x_20_18, x_20_20, x_20_21, x_20_24, x_20_27, x_20_28, x_20_29, x_20_30, x_20_33, x_20_36, x_20_39, x_20_41, hkJK_0, hkJK_24, hkJK_25, hkJK_51, jA_0_5, jA_0_7, jA_24_4, jL_25, jR_0_5, jR_0_7, jR_24_4, hkP1_0, hkP1_2, hkP1_u, hkC8, List.map_cons, List.map_nil, List.sum_cons, List.sum_nil, hkCat_0, hkCat_1, hkCat_2, Nat.reduceAdd, Nat.reduceLeDiff, hkPush_s, hkPush_n, true_and, and_true, implies_true, true_implies, not_true_eq_false, not_false_eq_true, false_implies, hkTf_0, hkTf_n1, hkOr01, hkOr11, Int.reduceEq, Int.reduceLT, Int.reduceLE, hk102a, hk102b, hk102c, Nat.reduceEqDiff, or_true, true_or, or_false, false_or, and_false, false_and, Classical.not_not, true_implies, List.set_cons_zero, List.set_cons_succ, ne_eq, hkLe_t ht, a2, a3]
        repeat' (first | exact hq | refine And.intro ?_ ?_ | intro _ | trivial | omega | (exfalso; omega))
      · have hq := q3 h hs (hkCpy g1 29 0 52 0 280) (fun q b1 b2 b3 b4 b5 b6 => by rw [hkCpy_row b6]; exact k1 q b1 b2 b3 b4 b5) (RB_c hb1 (fun q hq => hkCpy_row (by omega))) (by rw [hkCpy_row (by decide)]; exact a0) (by rw [hkCpy_row (by decide)]; exact a1) (a4 hs).1 (fun p p0 p1 => by rw [hkCpy_in p0 (by omega), ← (a4 hs).2 p p0 p1]; congr 1; omega)
        rw [hkTf_f hs] at a3
        have f0 := rd_f (l := 0) ht (by decide) (by decide)
        obtain ⟨f1, f2⟩ := f0
        rw [show (28 : Int) + 2 * 0 = 28 from rfl] at f2
        simp only [x_20_7, x_20_8, x_20_11, x_20_14, x_20_15, x_20_18, x_20_20, x_20_21, x_20_24, x_20_27, x_20_28, x_20_29, x_20_30, x_20_33, x_20_36, x_20_39, x_20_41, x_20_42, x_20_43, x_20_46, x_20_47, x_20_50, x_20_53, x_20_54, x_20_55, x_20_58, x_20_59, x_20_62, x_20_65, hkJK_0, hkJK_24, hkJK_25, hkJK_51, jA_0_5, jA_0_7, jA_24_4, jL_25, jR_0_5, jR_0_7, jR_24_4, hkP1_0, hkP1_2, hkP1_u, hkC8, List.map_cons, List.map_nil, List.sum_cons, List.sum_nil, hkCat_0, hkCat_1, hkCat_2, Nat.reduceAdd, Nat.reduceLeDiff, hkPush_s, hkPush_n, true_and, and_true, implies_true, true_implies, not_true_eq_false, not_false_eq_true, false_implies, hkTf_0, hkTf_n1, hkOr01, hkOr11, Int.reduceEq, Int.reduceLT, Int.reduceLE, hk102a, hk102b, hk102c, Nat.reduceEqDiff, or_true, true_or, or_false, false_or, and_false, false_and, Classical.not_not, true_implies, List.set_cons_zero, List.set_cons_succ, ne_eq, hkLe_t ht, a2, a3, hkJK_25, jL_25, f1, f2, hkJK_28, sx_sbec ht sm_51 hsm0, sx_filled51 ht]
        repeat' (first | exact hq | refine And.intro ?_ ?_ | intro _ | trivial | omega | (exfalso; omega))
  have M : ∀ (g1 : hkG) (Q : Option hkV → Nat → hkG → Prop), (∀ q : Int, 66 ≤ q → g1 q = g q) → RB g1 R N → (¬ rdOk F r → ∀ g2 : hkG, mKp 0 g1 g2 → RB g2 R N → Q (some (0, -100 - r.2.1)) t (hkSet g2 66 32 0)) → (rdOk F r → r.2.2.1 → ∀ g2 : hkG, mKp 0 g1 g2 → RB g2 R N → Q (some (0, -3)) t (hkSet (hkSet g2 66 12 r.1) 66 32 0)) → (rdOk F r → ¬ r.2.2.1 → ∀ g2 : hkG, mKp 0 g1 g2 → RB g2 R N → gvec (bxC R N) (hnd g2 0) → (∀ p : Int, 0 ≤ p → p < 280 → hnd g2 0 p = r.2.2.2 p) → Q (some (0, cnS (hkCpy (hkSet (hkSet g2 66 12 r.1) 66 32 0) 83 0 72 0 280 72) 280)) t (hkCpy (hkSet (hkSet g2 66 12 r.1) 66 32 0) 83 0 72 0 280)) → Xp 149 (d + 29) 0 [(2, 66), hkU] [] t g1 Q := by
    intro g1 Q k1 hb1 q1 q2 q3
    have h32 : g1 66 32 = F := by rw [k1 66 (by decide)]; exact hF'
    have hT1 : ∀ k : Int, 0 ≤ k → k < F → g1 85 k = (fun k => g 85 k) k := fun k _ _ => by rw [k1 85 (by decide)]
    simp only [x_149_0, x_149_1, x_149_2, hkJK_66, hkP1_0, hkP1_2, hkP1_u, hkC8, List.map_cons, List.map_nil, List.sum_cons, List.sum_nil, hkCat_0, hkCat_1, hkCat_2, Nat.reduceAdd, Nat.reduceLeDiff, hkPush_s, hkPush_n, true_and, and_true, implies_true, true_implies, not_true_eq_false, not_false_eq_true, false_implies, hkTf_0, hkTf_n1, hkOr01, hkOr11, Int.reduceEq, Int.reduceLT, Int.reduceLE, hk102a, hk102b, hk102c, Nat.reduceEqDiff, or_true, true_or, or_false, false_or, and_false, false_and, Classical.not_not, true_implies, List.set_cons_zero, List.set_cons_succ, ne_eq]
    refine sx_goes (d := d + 1) ht t2 t3 hb1 h32 hT1 hev (Or.inl rfl) (fun h g2 k2 hb2 e2 => ?_) (fun h g2 k2 hb2 _ => ?_)
    · have hq := q1 h g2 k2 hb2
      have e33 : hkSet g2 66 32 0 66 33 = r.2.1 := by rw [hkSet_rd, if_neg (by decide)]; exact e2
      have hw : hkW (-100 - r.2.1) = -100 - r.2.1 := hkW_in (by omega) (by omega)
      simp only [x_149_5, x_149_6, x_149_7, x_149_8, x_149_11, x_149_12, x_149_13, x_149_16, x_149_18, x_149_19, x_149_22, x_149_23, hkJK_66, hkP1_0, hkP1_2, hkP1_u, hkC8, List.map_cons, List.map_nil, List.sum_cons, List.sum_nil, hkCat_0, hkCat_1, hkCat_2, Nat.reduceAdd, Nat.reduceLeDiff, hkPush_s, hkPush_n, true_and, and_true, implies_true, true_implies, not_true_eq_false, not_false_eq_true, false_implies, hkTf_0, hkTf_n1, hkOr01, hkOr11, Int.reduceEq, Int.reduceLT, Int.reduceLE, hk102a, hk102b, hk102c, Nat.reduceEqDiff, or_true, true_or, or_false, false_or, and_false, false_and, Classical.not_not, true_implies, List.set_cons_zero, List.set_cons_succ, ne_eq, e33, hw]
      clear hw
      repeat' (first | exact hq | refine And.intro ?_ ?_ | intro _ | trivial | omega | (exfalso; omega))
    · have K24 : Xp 149 (d + 28 + 1) 24 [(2, 66), (0, r.1)] [] t g2 Q := by
        simp only [x_149_24, x_149_25, x_149_26, x_149_27, hkJK_66, hkP1_0, hkP1_2, hkP1_u, hkC8, List.map_cons, List.map_nil, List.sum_cons, List.sum_nil, hkCat_0, hkCat_1, hkCat_2, Nat.reduceAdd, Nat.reduceLeDiff, hkPush_s, hkPush_n, true_and, and_true, implies_true, true_implies, not_true_eq_false, not_false_eq_true, false_implies, hkTf_0, hkTf_n1, hkOr01, hkOr11, Int.reduceEq, Int.reduceLT, Int.reduceLE, hk102a, hk102b, hk102c, Nat.reduceEqDiff, or_true, true_or, or_false, false_or, and_false, false_and, Classical.not_not, true_implies, List.set_cons_zero, List.set_cons_succ, ne_eq]
        have h32b : g2 66 32 = F := by rw [k2.2.1 32 (by decide)]; exact h32
        refine sx_goes (d := d + 1) ht t2 t3 hb2 h32b (fun k a b => by rw [k2.1 85 (by decide)]; exact hT1 k a b) hev (Or.inr rfl) (fun h2 => absurd h h2) (fun _ g3 k3 hb3 v3 => ?_)
        obtain ⟨v29, v83, vv⟩ := v3 rfl
        have k13 := mKp_t k2 k3
        have f29 : hkSet (hkSet g3 66 12 r.1) 66 32 0 66 29 = hkTf r.2.2.1 := by rw [hkSet_rd, if_neg (by decide), hkSet_rd, if_neg (by decide)]; exact v29
        simp only [x_149_30, x_149_33, x_149_34, x_149_35, x_149_38, x_149_39, hkJK_66, hkP1_0, hkP1_2, hkP1_u, hkC8, List.map_cons, List.map_nil, List.sum_cons, List.sum_nil, hkCat_0, hkCat_1, hkCat_2, Nat.reduceAdd, Nat.reduceLeDiff, hkPush_s, hkPush_n, true_and, and_true, implies_true, true_implies, not_true_eq_false, not_false_eq_true, false_implies, hkTf_0, hkTf_n1, hkOr01, hkOr11, Int.reduceEq, Int.reduceLT, Int.reduceLE, hk102a, hk102b, hk102c, Nat.reduceEqDiff, or_true, true_or, or_false, false_or, and_false, false_and, Classical.not_not, true_implies, List.set_cons_zero, List.set_cons_succ, ne_eq]
        refine sx_mends (d := d + 27) ht f29 (fun hs => ?_) (fun hs => ?_)
        · have hq := q2 h hs g3 k13 hb3
          simp only [x_149_42, hkJK_66, hkP1_0, hkP1_2, hkP1_u, hkC8, List.map_cons, List.map_nil, List.sum_cons, List.sum_nil, hkCat_0, hkCat_1, hkCat_2, Nat.reduceAdd, Nat.reduceLeDiff, hkPush_s, hkPush_n, true_and, and_true, implies_true, true_implies, not_true_eq_false, not_false_eq_true, false_implies, hkTf_0, hkTf_n1, hkOr01, hkOr11, Int.reduceEq, Int.reduceLT, Int.reduceLE, hk102a, hk102b, hk102c, Nat.reduceEqDiff, or_true, true_or, or_false, false_or, and_false, false_and, Classical.not_not, true_implies, List.set_cons_zero, List.set_cons_succ, ne_eq]
          repeat' (first | exact hq | refine And.intro ?_ ?_ | intro _ | trivial | omega | (exfalso; omega))
        · have hq := q3 h hs g3 k13 hb3 v83 (vv hs)
          simp only [x_149_42, hkJK_66, hkP1_0, hkP1_2, hkP1_u, hkC8, List.map_cons, List.map_nil, List.sum_cons, List.sum_nil, hkCat_0, hkCat_1, hkCat_2, Nat.reduceAdd, Nat.reduceLeDiff, hkPush_s, hkPush_n, true_and, and_true, implies_true, true_implies, not_true_eq_false, not_false_eq_true, false_implies, hkTf_0, hkTf_n1, hkOr01, hkOr11, Int.reduceEq, Int.reduceLT, Int.reduceLE, hk102a, hk102b, hk102c, Nat.reduceEqDiff, or_true, true_or, or_false, false_or, and_false, false_and, Classical.not_not, true_implies, List.set_cons_zero, List.set_cons_succ, ne_eq]
          repeat' (first | exact hq | refine And.intro ?_ ?_ | intro _ | trivial | omega | (exfalso; omega))
      have hne := h.1
      simp only [x_149_5, x_149_6, x_149_7, x_149_8, hkJK_66, hkP1_0, hkP1_2, hkP1_u, hkC8, List.map_cons, List.map_nil, List.sum_cons, List.sum_nil, hkCat_0, hkCat_1, hkCat_2, Nat.reduceAdd, Nat.reduceLeDiff, hkPush_s, hkPush_n, true_and, and_true, implies_true, true_implies, not_true_eq_false, not_false_eq_true, false_implies, hkTf_0, hkTf_n1, hkOr01, hkOr11, Int.reduceEq, Int.reduceLT, Int.reduceLE, hk102a, hk102b, hk102c, Nat.reduceEqDiff, or_true, true_or, or_false, false_or, and_false, false_and, Classical.not_not, true_implies, List.set_cons_zero, List.set_cons_succ, ne_eq]
      repeat' (first | exact K24 | refine And.intro ?_ ?_ | intro _ | trivial | omega | (exfalso; omega))
  refine C _ (fun h g1 k1 hb1 a0 a1 => ⟨_, rfl, rfl, ?_⟩) (fun h hs g1 k1 hb1 a0 a1 => ⟨_, rfl, rfl, ?_⟩) (fun h hs g1 k1 hb1 a0 a1 gv v1 => ⟨_, rfl, rfl, ?_⟩)
  · refine M g1 _ (fun q hq => k1 q (by omega) (by omega) (by omega) (by omega) (by omega)) hb1 (fun _ g2 k2 hb2 => ⟨rfl, rfl, ?_⟩) (fun h2 => absurd h2 h) (fun h2 => absurd h2 h)
    have kq : ∀ q : Int, ¬ scr q → q ≠ 24 → hkSet g2 66 32 0 q = g q := fun q hq h24 => by rw [hkSet_row (by unfold scr at hq; omega), mdlR g1 g2 k2 q hq, clsR g1 k1 q hq h24]
    have kf : ∀ k : Int, fld k → k ≠ 32 → hkSet g2 66 32 0 66 k = g 66 k := fun k hk h32 => by rw [hkSet_rd, if_neg (fun h => h32 h.2), mdlF g1 g2 k2 k hk, k1 66 (by decide) (by decide) (by decide) (by decide) (by decide)]
    have k24 : ∀ k : Int, hkSet g2 66 32 0 24 k = g1 24 k := fun k => by rw [hkSet_row (by decide), k2.1 24 (by decide)]
    refine Rel_rd (RB_s hb2 (fun q q1 q2 => hkSet_row q2) (fun k _ _ => by rw [hkSet_rd, if_neg (by omega)])) (fun q hq _ _ => kq q hq (by unfold scr at hq; omega)) (fun k hk _ h32 => kf k hk h32) (by rw [k24]; exact a0) (by rw [hkSet_rd, if_pos ⟨rfl, rfl⟩]) (by rw [k24, a1, kf 12 (by unfold fld; omega) (by decide)]; exact t5) (RS_row hr.1 (kq 52 (by unfold scr; omega) (by decide)) (kq 72 (by unfold scr; omega) (by decide)) (kf 2 (by unfold fld; omega) (by decide))) hr
  · refine M g1 _ (fun q hq => k1 q (by omega) (by omega) (by omega) (by omega) (by omega)) hb1 (fun h2 => absurd h h2) (fun _ _ g2 k2 hb2 => ⟨rfl, rfl, ?_⟩) (fun _ h2 => absurd hs h2)
    have kq : ∀ q : Int, ¬ scr q → q ≠ 24 → hkSet (hkSet g2 66 12 r.1) 66 32 0 q = g q := fun q hq h24 => by rw [hkSet_row (by unfold scr at hq; omega), hkSet_row (by unfold scr at hq; omega), mdlR g1 g2 k2 q hq, clsR g1 k1 q hq h24]
    have kf : ∀ k : Int, fld k → k ≠ 12 → k ≠ 32 → hkSet (hkSet g2 66 12 r.1) 66 32 0 66 k = g 66 k := fun k hk h12 h32 => by rw [hkSet_rd, if_neg (fun h => h32 h.2), hkSet_rd, if_neg (fun h => h12 h.2), mdlF g1 g2 k2 k hk, k1 66 (by decide) (by decide) (by decide) (by decide) (by decide)]
    have k24 : ∀ k : Int, hkSet (hkSet g2 66 12 r.1) 66 32 0 24 k = g1 24 k := fun k => by rw [hkSet_row (by decide), hkSet_row (by decide), k2.1 24 (by decide)]
    refine Rel_rd (RB_s hb2 (fun q q1 q2 => by rw [hkSet_row q2, hkSet_row q2]) (fun k _ _ => by rw [hkSet_rd, if_neg (by omega), hkSet_rd, if_neg (by omega)])) (fun q hq _ _ => kq q hq (by unfold scr at hq; omega)) kf (by rw [k24]; exact a0) (by rw [hkSet_rd, if_pos ⟨rfl, rfl⟩]) (by rw [k24, a1, hkSet_rd, if_neg (by decide), hkSet_rd, if_pos ⟨rfl, rfl⟩]) (RS_row hr.1 (kq 52 (by unfold scr; omega) (by decide)) (kq 72 (by unfold scr; omega) (by decide)) (kf 2 (by unfold fld; omega) (by decide) (by decide))) hr
  · refine M g1 _ (fun q hq => k1 q (by omega) (by omega) (by omega) (by omega) (by omega) (by omega)) hb1 (fun h2 => absurd h h2) (fun _ h2 => absurd h2 hs) (fun _ _ g2 k2 hb2 gv2 v2 => ?_)
    have k1' : ∀ q : Int, ¬ scr q → q ≠ 24 → q ≠ 52 → g1 q = g q := fun q h h24 h52 => k1 q (by unfold scr at h; omega) (by unfold scr at h; omega) (by unfold scr at h; omega) h24 (by unfold scr at h; omega) h52
    generalize hg3 : hkCpy (hkSet (hkSet g2 66 12 r.1) 66 32 0) 83 0 72 0 280 = g3
    have k3 : ∀ q : Int, q ≠ 66 → q ≠ 72 → g3 q = g2 q := fun q a b => by rw [← hg3, hkCpy_row b, hkSet_row a, hkSet_row a]
    have k366 : ∀ k : Int, k ≠ 12 → k ≠ 32 → g3 66 k = g2 66 k := fun k a b => by rw [← hg3, hkCpy_row (by decide), hkSet_rd, if_neg (fun h => b h.2), hkSet_rd, if_neg (fun h => a h.2)]
    have k332 : g3 66 32 = 0 := by rw [← hg3, hkCpy_row (by decide), hkSet_rd, if_pos ⟨rfl, rfl⟩]
    have k312 : g3 66 12 = r.1 := by rw [← hg3, hkCpy_row (by decide), hkSet_rd, if_neg (by decide), hkSet_rd, if_pos ⟨rfl, rfl⟩]
    have k372 : ∀ p : Int, 0 ≤ p → p < 280 → g3 72 p = r.2.2.2 p := fun p p0 p1 => by
      rw [← hg3, hkCpy_in p0 (by omega), hkSet_row (by decide), hkSet_row (by decide), ← v2 p p0 p1]
      unfold hnd
      congr 1; omega
    have k352 : g3 52 = g1 52 := by rw [k3 52 (by decide) (by decide), k2.1 52 (by decide)]
    have kq : ∀ q : Int, ¬ scr q → q ≠ 24 → q ≠ 52 → q ≠ 72 → g3 q = g q := fun q hq h24 h52 h72 => by rw [k3 q (by unfold scr at hq; omega) h72, mdlR g1 g2 k2 q hq, k1' q hq h24 h52]
    have kf : ∀ k : Int, fld k → k ≠ 12 → k ≠ 32 → g3 66 k = g 66 k := fun k hk h12 h32 => by rw [k366 k h12 h32, mdlF g1 g2 k2 k hk, k1 66 (by decide) (by decide) (by decide) (by decide) (by decide) (by decide)]
    have k24 : ∀ k : Int, g3 24 k = g1 24 k := fun k => by rw [k3 24 (by decide) (by decide), k2.1 24 (by decide)]
    refine ⟨by rw [cnS_cong 280 (fun p p0 p1 => by rw [k372 p p0 (by omega), ← v1 p p0 (by omega)])], rfl, ?_⟩
    refine Rel_rd (RB_s hb2 (fun q q1 q2 => k3 q q2 (by omega)) (fun k a b => k366 k (by omega) (by omega))) (fun q hq h52 h72 => kq q hq (by unfold scr at hq; omega) h52 h72) kf (by rw [k24]; exact a0) k332 (by rw [k24, a1, k312]) (fun p p0 p1 => ?_) hr
    rw [k352, v1 p p0 p1, k372 p p0 p1, kf 2 (by unfold fld; omega) (by decide) (by decide), y3]
    exact ⟨rfl, gv p p0 p1⟩
end SP
