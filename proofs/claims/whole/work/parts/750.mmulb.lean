/-! the reference multiplies -/
def mmY (R N a b one two : Int) (F : Int → Int) (l p : Int) : Int := F p + (if p % 35 < l ∧ p / 35 = a / 35 + b / 35 + tnT R N (a % 35) (b % 35) (p % 35) then one * two * OFC R N (a % 35) (b % 35) (p % 35) else 0)
def mmKeep (g g' : hkG) : Prop := (∀ q : Int, q < 66 ∨ q = 67 ∨ q = 68 ∨ q = 69 ∨ q = 72 ∨ q = 73 ∨ q = 83 ∨ 85 ≤ q → g' q = g q) ∧ ∀ k : Int, k ≤ 15 ∨ 19 ≤ k → g' 66 k = g 66 k
theorem mmKeep_r {g : hkG} : mmKeep g g := ⟨fun _ _ => rfl, fun _ _ => rfl⟩
theorem mmKeep_t {g g' g'' : hkG} (h : mmKeep g g') (h' : mmKeep g' g'') : mmKeep g g'' := ⟨fun q a => by rw [h'.1 q a, h.1 q a], fun q a => by rw [h'.2 q a, h.2 q a]⟩
section SP
variable {t d : Nat} {R N : Int} {Q : Option hkV → Nat → hkG → Prop}
theorem l_mml (ht : 190 ≤ t) {to ot a b one two : Int} {F : Int → Int} (a0 : 0 ≤ a) (a1 : a < 280) (b0 : 0 ≤ b) (b1 : b < 280) (i1 : a % 35 < bxC R N) (j1 : b % 35 < bxC R N) (h2 : two ≠ 0) : ∀ (m : Nat) (l : Int) (v8 : hkV) (g : hkG), l + m = bxC R N → 0 ≤ l → hkP1 v8 → RB g R N → (∀ p : Int, 0 ≤ p → p < 840 → g 84 p = hkL (mmY R N a b one two F l p)) → (∀ (v8 : hkV) (g' : hkG), hkP1 v8 → mmKeep g g' → RB g' R N → (∀ p : Int, 0 ≤ p → p < 840 → g' 84 p = hkL (mmY R N a b one two F (bxC R N) p)) → Xp 144 (d + 12) 174 [(2, 66), (0, to), (0, ot), (0, a), (0, one), (0, b), (0, two), (0, bxC R N), v8] [] t g' Q) →
    Xp 144 (d + 12) 81 [(2, 66), (0, to), (0, ot), (0, a), (0, one), (0, b), (0, two), (0, l), v8] [] t g Q := by
  intro m
  induction m with
  | zero =>
    intro l v8 g hl l0 h8 hb hY hQ
    have e : l = bxC R N := by omega
    subst e
    have hx3 : g 66 2 = bxC R N := (MX_f hb.2.2.2.2.1).2.2.1
    have hq := hQ v8 g h8 mmKeep_r hb hY
    rw [x_144_81]
    simp only [x_144_83, x_144_84, x_144_87, hkJK_66, hkJK_83, hkJK_84, jA_66_27, jA_66_28, jL_83, jL_84, jR_66_27, jR_66_28, hkP1_0, hkP1_2, hkP1_u, hkC8, List.map_cons, List.map_nil, List.sum_cons, List.sum_nil, hkCat_0, hkCat_1, hkCat_2, Nat.reduceAdd, Nat.reduceLeDiff, hkPush_s, hkPush_n, true_and, and_true, implies_true, true_implies, not_true_eq_false, not_false_eq_true, false_implies, hkTf_0, hkTf_n1, hkOr01, hkOr11, Int.reduceEq, Int.reduceLT, Int.reduceLE, hk102a, hk102b, hk102c, Nat.reduceEqDiff, or_true, true_or, or_false, false_or, and_false, false_and, Classical.not_not, true_implies, List.set_cons_zero, List.set_cons_succ, ne_eq, hx3]
    repeat' (first | exact hq | refine And.intro ?_ ?_ | intro _ | trivial | omega | (exfalso; omega))
  | succ m ih =>
    intro l v8 g hl l0 h8 hb hY hQ
    have hc := bx_C hb.1.1
    have hx3 : g 66 2 = bxC R N := (MX_f hb.2.2.2.2.1).2.2.1
    have lc : l < bxC R N := by omega
    have i0 : 0 ≤ a % 35 := by omega
    have j0 : 0 ≤ b % 35 := by omega
    obtain ⟨m1, m2, m3, m4⟩ : a.tmod 35 = a % 35 ∧ b.tmod 35 = b % 35 ∧ a.tdiv 35 = a / 35 ∧ b.tdiv 35 = b / 35 := ⟨Int.tmod_eq_emod_of_nonneg a0, Int.tmod_eq_emod_of_nonneg b0, Int.tdiv_eq_ediv_of_nonneg a0, Int.tdiv_eq_ediv_of_nonneg b0⟩
    have hw : hkW (l + 1) = l + 1 := hkW_in (by omega) (by omega)
    rw [x_144_81]
    simp only [x_144_83, x_144_84, x_144_87, x_144_90, x_144_92, x_144_95, x_144_96, x_144_97, x_144_99, x_144_100, x_144_102, x_144_104, x_144_105, x_144_107, hkJK_66, hkJK_83, hkJK_84, jA_66_27, jA_66_28, jL_83, jL_84, jR_66_27, jR_66_28, hkP1_0, hkP1_2, hkP1_u, hkC8, List.map_cons, List.map_nil, List.sum_cons, List.sum_nil, hkCat_0, hkCat_1, hkCat_2, Nat.reduceAdd, Nat.reduceLeDiff, hkPush_s, hkPush_n, true_and, and_true, implies_true, true_implies, not_true_eq_false, not_false_eq_true, false_implies, hkTf_0, hkTf_n1, hkOr01, hkOr11, Int.reduceEq, Int.reduceLT, Int.reduceLE, hk102a, hk102b, hk102c, Nat.reduceEqDiff, or_true, true_or, or_false, false_or, and_false, false_and, Classical.not_not, true_implies, List.set_cons_zero, List.set_cons_succ, ne_eq, hx3, m1, m2]
    refine And.intro (fun h => absurd h (by clear hw; omega)) (fun _ => And.intro (fun h => absurd h h2) (fun _ => ?_))
    refine r_moften2 (d := d) ht hb i0 i1 j0 j1 l0 lc (fun g1 k1 hb1 => ?_)
    have k84 : g1 84 = g 84 := k1.1 84 (by decide) (by decide) (by decide) (by decide) (by decide) (by decide) (by decide) (by decide)
    have mk : mmKeep g g1 := ⟨fun q hq => k1.1 q (by clear hw; omega) (by clear hw; omega) (by clear hw; omega) (by clear hw; omega) (by clear hw; omega) (by clear hw; omega) (by clear hw; omega) (by clear hw; omega), fun k hk => k1.2 k (by clear hw; omega) (by clear hw; omega) (by clear hw; omega)⟩
    by_cases ho : OFC R N (a % 35) (b % 35) l = 0
    · simp only [x_144_110, x_144_112, x_144_114, hkJK_66, hkJK_83, hkJK_84, jA_66_27, jA_66_28, jL_83, jL_84, jR_66_27, jR_66_28, hkP1_0, hkP1_2, hkP1_u, hkC8, List.map_cons, List.map_nil, List.sum_cons, List.sum_nil, hkCat_0, hkCat_1, hkCat_2, Nat.reduceAdd, Nat.reduceLeDiff, hkPush_s, hkPush_n, true_and, and_true, implies_true, true_implies, not_true_eq_false, not_false_eq_true, false_implies, hkTf_0, hkTf_n1, hkOr01, hkOr11, Int.reduceEq, Int.reduceLT, Int.reduceLE, hk102a, hk102b, hk102c, Nat.reduceEqDiff, or_true, true_or, or_false, false_or, and_false, false_and, Classical.not_not, true_implies, List.set_cons_zero, List.set_cons_succ, ne_eq, x_144_168, x_144_171, hkJK_66, hkJK_83, hkJK_84, jA_66_27, jA_66_28, jL_83, jL_84, jR_66_27, jR_66_28, hkP1_0, hkP1_2, hkP1_u, hkC8, List.map_cons, List.map_nil, List.sum_cons, List.sum_nil, hkCat_0, hkCat_1, hkCat_2, Nat.reduceAdd, Nat.reduceLeDiff, hkPush_s, hkPush_n, true_and, and_true, implies_true, true_implies, not_true_eq_false, not_false_eq_true, false_implies, hkTf_0, hkTf_n1, hkOr01, hkOr11, Int.reduceEq, Int.reduceLT, Int.reduceLE, hk102a, hk102b, hk102c, Nat.reduceEqDiff, or_true, true_or, or_false, false_or, and_false, false_and, Classical.not_not, true_implies, List.set_cons_zero, List.set_cons_succ, ne_eq, h8, ho, hw]
      refine ih (l + 1) (0, 0) g1 (by clear hw; omega) (by clear hw; omega) (by rw [hkP1_0]; trivial) hb1 (fun p p0 p1 => ?_) (fun v8 g' h8' k' hb' hF' => hQ v8 g' h8' (mmKeep_t mk k') hb' hF')
      rw [k84, hY p p0 p1]
      congr 1
      unfold mmY
      congr 1
      by_cases c1 : p % 35 < l ∧ p / 35 = a / 35 + b / 35 + tnT R N (a % 35) (b % 35) (p % 35)
      · rw [if_pos c1, if_pos ⟨by clear hw; omega, c1.2⟩]
      · rw [if_neg c1]
        by_cases c2 : p % 35 < l + 1 ∧ p / 35 = a / 35 + b / 35 + tnT R N (a % 35) (b % 35) (p % 35)
        · have : p % 35 = l := by clear hw; omega
          rw [if_pos c2, this, ho, Int.mul_zero]
        · rw [if_neg c2]
    · have htn := tn_b hb.1.1 i0 i1 j0 j1 l0 lc ho
      have htn' : (bxZ R N (a % 35) + bxZ R N (b % 35) - bxZ R N l).tdiv N = tnT R N (a % 35) (b % 35) l := rfl
      obtain ⟨e1, e2, e3, e4, e5, e6⟩ : hkW (a / 35) = a / 35 ∧ hkW (b / 35) = b / 35 ∧ hkW (a / 35 + b / 35) = a / 35 + b / 35 ∧ hkW (a / 35 + b / 35 + tnT R N (a % 35) (b % 35) l) = a / 35 + b / 35 + tnT R N (a % 35) (b % 35) l ∧ hkW (35 * (a / 35 + b / 35 + tnT R N (a % 35) (b % 35) l)) = 35 * (a / 35 + b / 35 + tnT R N (a % 35) (b % 35) l) ∧ hkW (35 * (a / 35 + b / 35 + tnT R N (a % 35) (b % 35) l) + l) = 35 * (a / 35 + b / 35 + tnT R N (a % 35) (b % 35) l) + l := ⟨hkW_in (by clear hw; omega) (by clear hw; omega), hkW_in (by clear hw; omega) (by clear hw; omega), hkW_in (by clear hw; omega) (by clear hw; omega), hkW_in (by clear hw; omega) (by clear hw; omega), hkW_in (by clear hw; omega) (by clear hw; omega), hkW_in (by clear hw; omega) (by clear hw; omega)⟩
      simp only [x_144_110, x_144_112, x_144_114, x_144_117, x_144_118, x_144_121, x_144_123, x_144_124, x_144_126, x_144_127, x_144_129, x_144_131, x_144_132, x_144_133, x_144_134, x_144_135, x_144_137, x_144_138, x_144_140, x_144_142, x_144_143, x_144_145, x_144_148, x_144_149, x_144_150, x_144_152, x_144_153, x_144_154, x_144_155, x_144_157, x_144_158, x_144_160, x_144_161, x_144_162, x_144_164, x_144_165, x_144_166, x_144_167, x_144_168, x_144_171, hkJK_66, hkJK_83, hkJK_84, jA_66_27, jA_66_28, jL_83, jL_84, jR_66_27, jR_66_28, hkP1_0, hkP1_2, hkP1_u, hkC8, List.map_cons, List.map_nil, List.sum_cons, List.sum_nil, hkCat_0, hkCat_1, hkCat_2, Nat.reduceAdd, Nat.reduceLeDiff, hkPush_s, hkPush_n, true_and, and_true, implies_true, true_implies, not_true_eq_false, not_false_eq_true, false_implies, hkTf_0, hkTf_n1, hkOr01, hkOr11, Int.reduceEq, Int.reduceLT, Int.reduceLE, hk102a, hk102b, hk102c, Nat.reduceEqDiff, or_true, true_or, or_false, false_or, and_false, false_and, Classical.not_not, true_implies, List.set_cons_zero, List.set_cons_succ, ne_eq, hkLe_t ht, h8, ho, hw, m1, m2, m3, m4, e1, e2, e3, sx_mTurnsOf ht hb1.2.2.2.2.1 i0 i1 j0 j1 l0 lc, htn', e4, e5, e6, k84]
      have hidx : (35 * (a / 35 + b / 35 + tnT R N (a % 35) (b % 35) l) + l) % 35 = l ∧ (35 * (a / 35 + b / 35 + tnT R N (a % 35) (b % 35) l) + l) / 35 = a / 35 + b / 35 + tnT R N (a % 35) (b % 35) l := by clear hw e1 e2 e3 e4 e5 e6; omega
      have IH := ih (l + 1) (0, OFC R N (a % 35) (b % 35) l) (hkSet g1 84 (35 * (a / 35 + b / 35 + tnT R N (a % 35) (b % 35) l) + l) (hkL (g 84 (35 * (a / 35 + b / 35 + tnT R N (a % 35) (b % 35) l) + l) + hkL (hkL (one * two) * OFC R N (a % 35) (b % 35) l)))) (by clear hw e1 e2 e3 e4 e5 e6; omega) (by clear hw e1 e2 e3 e4 e5 e6; omega) (by rw [hkP1_0]; trivial) (RB_c hb1 (fun q hq => hkSet_row (by clear hw e1 e2 e3 e4 e5 e6; omega))) (fun p p0 p1 => by
        clear hw e1 e2 e3 e4 e5 e6
        by_cases hp : p = 35 * (a / 35 + b / 35 + tnT R N (a % 35) (b % 35) l) + l
        · subst hp
          rw [hkSet_rd, if_pos ⟨rfl, rfl⟩, hY _ p0 p1, hkL_mul, hkL_add]
          congr 1
          unfold mmY
          rw [if_neg (by rw [hidx.1]; omega), if_pos (by rw [hidx.1, hidx.2]; exact ⟨by omega, rfl⟩), hidx.1]
          omega
        · rw [hkSet_rd, if_neg (fun h => hp h.2), k84, hY p p0 p1]
          congr 1
          unfold mmY
          congr 1
          by_cases c1 : p % 35 < l ∧ p / 35 = a / 35 + b / 35 + tnT R N (a % 35) (b % 35) (p % 35)
          · rw [if_pos c1, if_pos ⟨by omega, c1.2⟩]
          · rw [if_neg c1, if_neg (fun c2 => by
              have h1 : p % 35 = l := by omega
              have h3 := c2.2
              rw [h1] at h3
              omega)]) (fun v8 g' h8' k' hb' hF' => hQ v8 g' h8' (mmKeep_t mk (mmKeep_t ⟨fun q hq => hkSet_row (by clear hw e1 e2 e3 e4 e5 e6; omega), fun k _ => by rw [hkSet_row (by decide)]⟩ k')) hb' hF')
      clear hw e1 e2 e3 e4 e5 e6
      repeat' (first | exact IH | refine And.intro ?_ ?_ | intro _ | trivial | omega | (exfalso; omega))
theorem l_mmb (ht : 190 ≤ t) {to ot a one : Int} {A B : Int → Int} (t0 : 0 ≤ ot) (t15 : ot ≤ 15) (hB : gvec (bxC R N) B) (a0 : 0 ≤ a) (a1 : a < 280) (i1 : a % 35 < bxC R N) (h1 : A a = one) (h1' : one ≠ 0) : ∀ (m : Nat) (b : Int) (v6 v7 v8 : hkV) (g : hkG) (F : Int → Int), b + m = 280 → 0 ≤ b → hkP1 v6 → hkP1 v7 → hkP1 v8 → RB g R N → (∀ p : Int, 0 ≤ p → p < 280 → g 83 (280 * ot + p) = B p) → (∀ p : Int, 0 ≤ p → p < 840 → g 84 p = hkL (F p)) → (∀ (v6 v7 v8 : hkV) (g' : hkG), hkP1 v6 → hkP1 v7 → hkP1 v8 → mmKeep g g' → RB g' R N → (∀ p : Int, 0 ≤ p → p < 840 → g' 84 p = hkL (F p + smr m (fun b => A a * B b * mcf R N a b p) b)) → Xp 144 (d + 12) 180 [(2, 66), (0, to), (0, ot), (0, a), (0, one), (0, 280), v6, v7, v8] [] t g' Q) →
    Xp 144 (d + 12) 50 [(2, 66), (0, to), (0, ot), (0, a), (0, one), (0, b), v6, v7, v8] [] t g Q := by
  intro m
  induction m with
  | zero =>
    intro b v6 v7 v8 g F hb' b0 h6 h7 h8 hb h83 hF hQ
    have e : b = 280 := by omega
    subst e
    have hq := hQ v6 v7 v8 g h6 h7 h8 mmKeep_r hb (fun p p0 p1 => by rw [hF p p0 p1]; congr 1; unfold smr; omega)
    rw [x_144_50]
    simp only [x_144_52, x_144_55, hkJK_66, hkJK_83, hkJK_84, jA_66_27, jA_66_28, jL_83, jL_84, jR_66_27, jR_66_28, hkP1_0, hkP1_2, hkP1_u, hkC8, List.map_cons, List.map_nil, List.sum_cons, List.sum_nil, hkCat_0, hkCat_1, hkCat_2, Nat.reduceAdd, Nat.reduceLeDiff, hkPush_s, hkPush_n, true_and, and_true, implies_true, true_implies, not_true_eq_false, not_false_eq_true, false_implies, hkTf_0, hkTf_n1, hkOr01, hkOr11, Int.reduceEq, Int.reduceLT, Int.reduceLE, hk102a, hk102b, hk102c, Nat.reduceEqDiff, or_true, true_or, or_false, false_or, and_false, false_and, Classical.not_not, true_implies, List.set_cons_zero, List.set_cons_succ, ne_eq]
    repeat' (first | exact hq | refine And.intro ?_ ?_ | intro _ | trivial | omega | (exfalso; omega))
  | succ m ih =>
    intro b v6 v7 v8 g F hb' b0 h6 h7 h8 hb h83 hF hQ
    have hc := bx_C hb.1.1
    have hgb := h83 b b0 (by omega)
    have hx3 : g 66 2 = bxC R N := (MX_f hb.2.2.2.2.1).2.2.1
    obtain ⟨hw, e1, e2⟩ : hkW (b + 1) = b + 1 ∧ hkW (280 * ot) = 280 * ot ∧ hkW (280 * ot + b) = 280 * ot + b := ⟨hkW_in (by omega) (by omega), hkW_in (by omega) (by omega), hkW_in (by omega) (by omega)⟩
    by_cases hz : B b = 0
    · have IH := ih (b + 1) (0, 0) (0, 0) v8 g F (by clear hw e1 e2; omega) (by clear hw e1 e2; omega) (by rw [hkP1_0]; trivial) (by rw [hkP1_0]; trivial) h8 hb h83 hF (fun v6 v7 v8 g' h6' h7' h8' k' hb' hF' => hQ v6 v7 v8 g' h6' h7' h8' k' hb' (fun p p0 p1 => by
        rw [hF' p p0 p1]
        congr 1
        simp only [smr, hz, Int.mul_zero, Int.zero_mul, Int.zero_add]))
      rw [x_144_50]
      simp only [x_144_52, x_144_55, x_144_58, x_144_60, x_144_63, x_144_64, x_144_67, x_144_70, x_144_71, x_144_72, x_144_74, x_144_75, x_144_76, x_144_78, x_144_79, x_144_81, x_144_83, x_144_84, x_144_87, x_144_90, x_144_92, hkJK_66, hkJK_83, hkJK_84, jA_66_27, jA_66_28, jL_83, jL_84, jR_66_27, jR_66_28, hkP1_0, hkP1_2, hkP1_u, hkC8, List.map_cons, List.map_nil, List.sum_cons, List.sum_nil, hkCat_0, hkCat_1, hkCat_2, Nat.reduceAdd, Nat.reduceLeDiff, hkPush_s, hkPush_n, true_and, and_true, implies_true, true_implies, not_true_eq_false, not_false_eq_true, false_implies, hkTf_0, hkTf_n1, hkOr01, hkOr11, Int.reduceEq, Int.reduceLT, Int.reduceLE, hk102a, hk102b, hk102c, Nat.reduceEqDiff, or_true, true_or, or_false, false_or, and_false, false_and, Classical.not_not, true_implies, List.set_cons_zero, List.set_cons_succ, ne_eq, x_144_174, x_144_177, hkJK_66, hkJK_83, hkJK_84, jA_66_27, jA_66_28, jL_83, jL_84, jR_66_27, jR_66_28, hkP1_0, hkP1_2, hkP1_u, hkC8, List.map_cons, List.map_nil, List.sum_cons, List.sum_nil, hkCat_0, hkCat_1, hkCat_2, Nat.reduceAdd, Nat.reduceLeDiff, hkPush_s, hkPush_n, true_and, and_true, implies_true, true_implies, not_true_eq_false, not_false_eq_true, false_implies, hkTf_0, hkTf_n1, hkOr01, hkOr11, Int.reduceEq, Int.reduceLT, Int.reduceLE, hk102a, hk102b, hk102c, Nat.reduceEqDiff, or_true, true_or, or_false, false_or, and_false, false_and, Classical.not_not, true_implies, List.set_cons_zero, List.set_cons_succ, ne_eq, hkLe_t ht, h6, h7, e1, e2, hgb, hz, hx3, hw]
      clear hw e1 e2
      repeat' (first | exact IH | refine And.intro ?_ ?_ | intro _ | trivial | omega | (exfalso; omega))
    · have j1 : b % 35 < bxC R N := Int.not_le.1 (fun h => hz ((hB b b0 (by clear hw e1 e2; omega)).2 h))
      have IH := l_mml (d := d) (Q := Q) (to := to) (ot := ot) (a := a) (b := b) (one := one) (two := B b) (F := F) ht a0 a1 b0 (by clear hw e1 e2; omega) i1 j1 hz (bxC R N).toNat 0 v8 g (by clear hw e1 e2; omega) (by decide) h8 hb (fun p p0 p1 => by
        rw [hF p p0 p1]
        congr 1
        unfold mmY
        rw [if_neg (by clear hw e1 e2; omega), Int.add_zero]) (fun v8' g2 h8' k2 hb2 hF2 => by
        have IH2 := ih (b + 1) (0, B b) (0, bxC R N) v8' g2 (fun p => F p + A a * B b * mcf R N a b p) (by clear hw e1 e2; omega) (by clear hw e1 e2; omega) (by rw [hkP1_0]; trivial) (by rw [hkP1_0]; trivial) h8' hb2 (fun p p0 p1 => by rw [k2.1 83 (by decide)]; exact h83 p p0 p1) (fun p p0 p1 => by
          rw [hF2 p p0 p1]
          congr 1
          unfold mmY mcf
          rw [h1]
          congr 1
          by_cases c : p % 35 < bxC R N ∧ p / 35 = a / 35 + b / 35 + tnT R N (a % 35) (b % 35) (p % 35)
          · rw [if_pos c, if_pos c]
          · rw [if_neg c, if_neg c, Int.mul_zero]) (fun v6 v7 v8 g' h6' h7' h8' k' hb' hF' => hQ v6 v7 v8 g' h6' h7' h8' (mmKeep_t k2 k') hb' (fun p p0 p1 => by
          rw [hF' p p0 p1]
          congr 1
          simp only [smr]
          clear hw e1 e2; omega))
        simp only [x_144_174, x_144_177, hkJK_66, hkJK_83, hkJK_84, jA_66_27, jA_66_28, jL_83, jL_84, jR_66_27, jR_66_28, hkP1_0, hkP1_2, hkP1_u, hkC8, List.map_cons, List.map_nil, List.sum_cons, List.sum_nil, hkCat_0, hkCat_1, hkCat_2, Nat.reduceAdd, Nat.reduceLeDiff, hkPush_s, hkPush_n, true_and, and_true, implies_true, true_implies, not_true_eq_false, not_false_eq_true, false_implies, hkTf_0, hkTf_n1, hkOr01, hkOr11, Int.reduceEq, Int.reduceLT, Int.reduceLE, hk102a, hk102b, hk102c, Nat.reduceEqDiff, or_true, true_or, or_false, false_or, and_false, false_and, Classical.not_not, true_implies, List.set_cons_zero, List.set_cons_succ, ne_eq, hw]
        exact IH2)
      rw [x_144_50]
      simp only [x_144_52, x_144_55, x_144_58, x_144_60, x_144_63, x_144_64, x_144_67, x_144_70, x_144_71, x_144_72, x_144_74, x_144_75, x_144_76, x_144_78, x_144_79, hkJK_66, hkJK_83, hkJK_84, jA_66_27, jA_66_28, jL_83, jL_84, jR_66_27, jR_66_28, hkP1_0, hkP1_2, hkP1_u, hkC8, List.map_cons, List.map_nil, List.sum_cons, List.sum_nil, hkCat_0, hkCat_1, hkCat_2, Nat.reduceAdd, Nat.reduceLeDiff, hkPush_s, hkPush_n, true_and, and_true, implies_true, true_implies, not_true_eq_false, not_false_eq_true, false_implies, hkTf_0, hkTf_n1, hkOr01, hkOr11, Int.reduceEq, Int.reduceLT, Int.reduceLE, hk102a, hk102b, hk102c, Nat.reduceEqDiff, or_true, true_or, or_false, false_or, and_false, false_and, Classical.not_not, true_implies, List.set_cons_zero, List.set_cons_succ, ne_eq, hkLe_t ht, h6, h7, e1, e2, hgb]
      clear hw e1 e2
      repeat' (first | exact IH | refine And.intro ?_ ?_ | intro _ | trivial | omega | (exfalso; omega))
theorem l_mma (ht : 190 ≤ t) {to ot : Int} {A B : Int → Int} (t0 : 0 ≤ to) (t15 : to ≤ 15) (o0 : 0 ≤ ot) (o15 : ot ≤ 15) (hA : gvec (bxC R N) A) (hB : gvec (bxC R N) B) : ∀ (m : Nat) (a : Int) (v4 v5 v6 v7 v8 : hkV) (g : hkG) (F : Int → Int), a + m = 280 → 0 ≤ a → hkP1 v4 → hkP1 v5 → hkP1 v6 → hkP1 v7 → hkP1 v8 → RB g R N → (∀ p : Int, 0 ≤ p → p < 280 → g 83 (280 * to + p) = A p) → (∀ p : Int, 0 ≤ p → p < 280 → g 83 (280 * ot + p) = B p) → (∀ p : Int, 0 ≤ p → p < 840 → g 84 p = hkL (F p)) → (∀ (v4 v5 v6 v7 v8 : hkV) (g' : hkG), mmKeep g g' → RB g' R N → (∀ p : Int, 0 ≤ p → p < 840 → g' 84 p = hkL (F p + smr m (fun a => smr 280 (fun b => A a * B b * mcf R N a b p) 0) a)) → Xp 144 (d + 12) 186 [(2, 66), (0, to), (0, ot), (0, 280), v4, v5, v6, v7, v8] [] t g' Q) →
    Xp 144 (d + 12) 26 [(2, 66), (0, to), (0, ot), (0, a), v4, v5, v6, v7, v8] [] t g Q := by
  intro m
  induction m with
  | zero =>
    intro a v4 v5 v6 v7 v8 g F ha a0 h4 h5 h6 h7 h8 hb h83 h83' hF hQ
    have e : a = 280 := by omega
    subst e
    have hq := hQ v4 v5 v6 v7 v8 g mmKeep_r hb (fun p p0 p1 => by rw [hF p p0 p1]; congr 1; unfold smr; omega)
    rw [x_144_26]
    simp only [x_144_27, x_144_30, hkJK_66, hkJK_83, hkJK_84, jA_66_27, jA_66_28, jL_83, jL_84, jR_66_27, jR_66_28, hkP1_0, hkP1_2, hkP1_u, hkC8, List.map_cons, List.map_nil, List.sum_cons, List.sum_nil, hkCat_0, hkCat_1, hkCat_2, Nat.reduceAdd, Nat.reduceLeDiff, hkPush_s, hkPush_n, true_and, and_true, implies_true, true_implies, not_true_eq_false, not_false_eq_true, false_implies, hkTf_0, hkTf_n1, hkOr01, hkOr11, Int.reduceEq, Int.reduceLT, Int.reduceLE, hk102a, hk102b, hk102c, Nat.reduceEqDiff, or_true, true_or, or_false, false_or, and_false, false_and, Classical.not_not, true_implies, List.set_cons_zero, List.set_cons_succ, ne_eq]
    repeat' (first | exact hq | refine And.intro ?_ ?_ | intro _ | trivial | omega | (exfalso; omega))
  | succ m ih =>
    intro a v4 v5 v6 v7 v8 g F ha a0 h4 h5 h6 h7 h8 hb h83 h83' hF hQ
    have hga := h83 a a0 (by omega)
    obtain ⟨hw, e1, e2⟩ : hkW (a + 1) = a + 1 ∧ hkW (280 * to) = 280 * to ∧ hkW (280 * to + a) = 280 * to + a := ⟨hkW_in (by omega) (by omega), hkW_in (by omega) (by omega), hkW_in (by omega) (by omega)⟩
    by_cases hz : A a = 0
    · have IH := ih (a + 1) (0, 0) (0, 0) v6 v7 v8 g F (by clear hw e1 e2; omega) (by clear hw e1 e2; omega) (by rw [hkP1_0]; trivial) (by rw [hkP1_0]; trivial) h6 h7 h8 hb h83 h83' hF (fun v4 v5 v6 v7 v8 g' k' hb' hF' => hQ v4 v5 v6 v7 v8 g' k' hb' (fun p p0 p1 => by
        rw [hF' p p0 p1]
        congr 1
        rw [smr_s (m := m)]
        rw [show smr 280 (fun b => A a * B b * mcf R N a b p) 0 = 0 from smr_z (fun x _ _ => by rw [hz, Int.zero_mul, Int.zero_mul]), Int.zero_add]))
      rw [x_144_26]
      simp only [x_144_27, x_144_30, x_144_33, x_144_34, x_144_37, x_144_40, x_144_41, x_144_42, x_144_43, x_144_44, x_144_45, x_144_47, x_144_48, x_144_50, x_144_52, x_144_55, x_144_58, x_144_60, hkJK_66, hkJK_83, hkJK_84, jA_66_27, jA_66_28, jL_83, jL_84, jR_66_27, jR_66_28, hkP1_0, hkP1_2, hkP1_u, hkC8, List.map_cons, List.map_nil, List.sum_cons, List.sum_nil, hkCat_0, hkCat_1, hkCat_2, Nat.reduceAdd, Nat.reduceLeDiff, hkPush_s, hkPush_n, true_and, and_true, implies_true, true_implies, not_true_eq_false, not_false_eq_true, false_implies, hkTf_0, hkTf_n1, hkOr01, hkOr11, Int.reduceEq, Int.reduceLT, Int.reduceLE, hk102a, hk102b, hk102c, Nat.reduceEqDiff, or_true, true_or, or_false, false_or, and_false, false_and, Classical.not_not, true_implies, List.set_cons_zero, List.set_cons_succ, ne_eq, x_144_180, x_144_183, hkJK_66, hkJK_83, hkJK_84, jA_66_27, jA_66_28, jL_83, jL_84, jR_66_27, jR_66_28, hkP1_0, hkP1_2, hkP1_u, hkC8, List.map_cons, List.map_nil, List.sum_cons, List.sum_nil, hkCat_0, hkCat_1, hkCat_2, Nat.reduceAdd, Nat.reduceLeDiff, hkPush_s, hkPush_n, true_and, and_true, implies_true, true_implies, not_true_eq_false, not_false_eq_true, false_implies, hkTf_0, hkTf_n1, hkOr01, hkOr11, Int.reduceEq, Int.reduceLT, Int.reduceLE, hk102a, hk102b, hk102c, Nat.reduceEqDiff, or_true, true_or, or_false, false_or, and_false, false_and, Classical.not_not, true_implies, List.set_cons_zero, List.set_cons_succ, ne_eq, hkLe_t ht, h4, h5, e1, e2, hga, hz, hw]
      clear hw e1 e2
      repeat' (first | exact IH | refine And.intro ?_ ?_ | intro _ | trivial | omega | (exfalso; omega))
    · have i1 : a % 35 < bxC R N := Int.not_le.1 (fun h => hz ((hA a a0 (by clear hw e1 e2; omega)).2 h))
      have IH := fun v6 v7 v8 h6 h7 h8 => l_mmb (d := d) (Q := Q) (to := to) (ot := ot) (a := a) (one := A a) (A := A) (B := B) ht o0 o15 hB a0 (by clear hw e1 e2; omega) i1 rfl hz 280 0 v6 v7 v8 g F (by decide) (by decide) h6 h7 h8 hb h83' hF (fun v6' v7' v8' g2 h6' h7' h8' k2 hb2 hF2 => by
        have IH2 := ih (a + 1) (0, A a) (0, 280) v6' v7' v8' g2 _ (by clear hw e1 e2; omega) (by clear hw e1 e2; omega) (by rw [hkP1_0]; trivial) (by rw [hkP1_0]; trivial) h6' h7' h8' hb2 (fun p p0 p1 => by rw [k2.1 83 (by decide)]; exact h83 p p0 p1) (fun p p0 p1 => by rw [k2.1 83 (by decide)]; exact h83' p p0 p1) hF2 (fun v4 v5 v6 v7 v8 g' k' hb' hF' => hQ v4 v5 v6 v7 v8 g' (mmKeep_t k2 k') hb' (fun p p0 p1 => by
          rw [hF' p p0 p1]
          congr 1
          rw [smr_s (m := m)]
          clear hw e1 e2; omega))
        simp only [x_144_180, x_144_183, hkJK_66, hkJK_83, hkJK_84, jA_66_27, jA_66_28, jL_83, jL_84, jR_66_27, jR_66_28, hkP1_0, hkP1_2, hkP1_u, hkC8, List.map_cons, List.map_nil, List.sum_cons, List.sum_nil, hkCat_0, hkCat_1, hkCat_2, Nat.reduceAdd, Nat.reduceLeDiff, hkPush_s, hkPush_n, true_and, and_true, implies_true, true_implies, not_true_eq_false, not_false_eq_true, false_implies, hkTf_0, hkTf_n1, hkOr01, hkOr11, Int.reduceEq, Int.reduceLT, Int.reduceLE, hk102a, hk102b, hk102c, Nat.reduceEqDiff, or_true, true_or, or_false, false_or, and_false, false_and, Classical.not_not, true_implies, List.set_cons_zero, List.set_cons_succ, ne_eq, hw]
        exact IH2)
      have IH' := IH v6 v7 v8 h6 h7 h8
      rw [x_144_26]
      simp only [x_144_27, x_144_30, x_144_33, x_144_34, x_144_37, x_144_40, x_144_41, x_144_42, x_144_43, x_144_44, x_144_45, x_144_47, x_144_48, hkJK_66, hkJK_83, hkJK_84, jA_66_27, jA_66_28, jL_83, jL_84, jR_66_27, jR_66_28, hkP1_0, hkP1_2, hkP1_u, hkC8, List.map_cons, List.map_nil, List.sum_cons, List.sum_nil, hkCat_0, hkCat_1, hkCat_2, Nat.reduceAdd, Nat.reduceLeDiff, hkPush_s, hkPush_n, true_and, and_true, implies_true, true_implies, not_true_eq_false, not_false_eq_true, false_implies, hkTf_0, hkTf_n1, hkOr01, hkOr11, Int.reduceEq, Int.reduceLT, Int.reduceLE, hk102a, hk102b, hk102c, Nat.reduceEqDiff, or_true, true_or, or_false, false_or, and_false, false_and, Classical.not_not, true_implies, List.set_cons_zero, List.set_cons_succ, ne_eq, hkLe_t ht, h4, h5, e1, e2, hga]
      clear hw e1 e2
      repeat' (first | exact IH' | refine And.intro ?_ ?_ | intro _ | trivial | omega | (exfalso; omega))
theorem l_mm0 (ht : 190 ≤ t) {to ot : Int} {v4 v5 v6 v7 v8 : hkV} : ∀ (m : Nat) (k : Int) (g : hkG), k + m = 840 → 0 ≤ k → Xp 144 d 24 [(2, 66), (0, to), (0, ot), (0, 840), v4, v5, v6, v7, v8] [] t (hkFil g 84 k 840 0) Q → Xp 144 d 2 [(2, 66), (0, to), (0, ot), (0, k), v4, v5, v6, v7, v8] [] t g Q := by
  intro m
  induction m with
  | zero =>
    intro k g hk k0 hQ
    have e : k = 840 := by omega
    subst e
    rw [hkFil_0] at hQ
    rw [x_144_2]
    simp only [x_144_3, x_144_4, x_144_7, x_144_8, hkJK_66, hkJK_83, hkJK_84, jA_66_27, jA_66_28, jL_83, jL_84, jR_66_27, jR_66_28, hkP1_0, hkP1_2, hkP1_u, hkC8, List.map_cons, List.map_nil, List.sum_cons, List.sum_nil, hkCat_0, hkCat_1, hkCat_2, Nat.reduceAdd, Nat.reduceLeDiff, hkPush_s, hkPush_n, true_and, and_true, implies_true, true_implies, not_true_eq_false, not_false_eq_true, false_implies, hkTf_0, hkTf_n1, hkOr01, hkOr11, Int.reduceEq, Int.reduceLT, Int.reduceLE, hk102a, hk102b, hk102c, Nat.reduceEqDiff, or_true, true_or, or_false, false_or, and_false, false_and, Classical.not_not, true_implies, List.set_cons_zero, List.set_cons_succ, ne_eq, hkLe_t ht]
    repeat' (first | exact hQ | refine And.intro ?_ ?_ | intro _ | trivial | omega | (exfalso; omega))
  | succ m ih =>
    intro k g hk k0 hQ
    rw [← hkFil_n (by omega)] at hQ
    have IH := ih (k + 1) (hkSet g 84 k 0) (by omega) (by omega) hQ
    have hw : hkW (k + 1) = k + 1 := hkW_in (by omega) (by omega)
    rw [x_144_2]
    simp only [x_144_3, x_144_4, x_144_7, x_144_8, x_144_11, x_144_12, x_144_15, x_144_16, x_144_17, x_144_18, x_144_21, hkJK_66, hkJK_83, hkJK_84, jA_66_27, jA_66_28, jL_83, jL_84, jR_66_27, jR_66_28, hkP1_0, hkP1_2, hkP1_u, hkC8, List.map_cons, List.map_nil, List.sum_cons, List.sum_nil, hkCat_0, hkCat_1, hkCat_2, Nat.reduceAdd, Nat.reduceLeDiff, hkPush_s, hkPush_n, true_and, and_true, implies_true, true_implies, not_true_eq_false, not_false_eq_true, false_implies, hkTf_0, hkTf_n1, hkOr01, hkOr11, Int.reduceEq, Int.reduceLT, Int.reduceLE, hk102a, hk102b, hk102c, Nat.reduceEqDiff, or_true, true_or, or_false, false_or, and_false, false_and, Classical.not_not, true_implies, List.set_cons_zero, List.set_cons_succ, ne_eq, hkLe_t ht, hw]
    clear hw
    repeat' (first | exact IH | refine And.intro ?_ ?_ | intro _ | trivial | omega | (exfalso; omega))
theorem lyK_mul {A B : Int → Int} (hb : bxOk R N) (hA : gvec (bxC R N) A) (hB : gvec (bxC R N) B) : lyK (mprod R N A B) 840 ↔ fitsP R N A B := by
  constructor
  · intro h
    exact ⟨fun p p0 p1 => (h p p0 (by omega)).1 p1, fun p p0 p1 => (h p (by omega) (by omega)).2 p0⟩
  · intro h x x0 x1
    refine ⟨fun hx => h.1 x x0 hx, fun hx => ?_⟩
    by_cases h630 : x < 630
    · exact h.2 x hx h630
    · exact mprod_far hb hA hB (by omega)
theorem sx_mmultiplies {g : hkG} (ht : 190 ≤ t) (hb : RB g R N) {to ot : Int} {A B : Int → Int} {P : Prop} (t0 : 0 ≤ to) (t15 : to ≤ 15) (o0 : 0 ≤ ot) (o15 : ot ≤ 15) (hA : gvec (bxC R N) A) (hB : gvec (bxC R N) B) (hgA : ∀ p : Int, 0 ≤ p → p < 280 → g 83 (280 * to + p) = A p) (hgB : ∀ p : Int, 0 ≤ p → p < 280 → g 83 (280 * ot + p) = B p) (h29 : g 66 29 = hkTf P) (hQ : ∀ g' : hkG, hdKeep to g g' → RB g' R N → g' 66 29 = hkTf (P ∨ ¬ fitsP R N A B) → ((P ∨ ¬ fitsP R N A B) → ∀ p : Int, 0 ≤ p → p < 280 → g' 83 (280 * to + p) = 0) → (¬ (P ∨ ¬ fitsP R N A B) → ∀ p : Int, 0 ≤ p → p < 280 → g' 83 (280 * to + p) = mprod R N A B p) → Q none t g') :
    Xp 144 (d + 12) 0 [(2, 66), (0, to), (0, ot), hkU, hkU, hkU, hkU, hkU, hkU] [] t g Q := by
  have K := l_mma (d := d) (Q := Q) (to := to) (ot := ot) (A := A) (B := B) ht t0 t15 o0 o15 hA hB 280 0 hkU hkU hkU hkU hkU (hkFil g 84 0 840 0) (fun _ => 0) (by decide) (by decide) (by rw [hkP1_u]; trivial) (by rw [hkP1_u]; trivial) (by rw [hkP1_u]; trivial) (by rw [hkP1_u]; trivial) (by rw [hkP1_u]; trivial) (RB_c hb (fun q hq => hkFil_row (by omega))) (fun p p0 p1 => by rw [hkFil_row (by decide)]; exact hgA p p0 p1) (fun p p0 p1 => by rw [hkFil_row (by decide)]; exact hgB p p0 p1) (fun p p0 p1 => by rw [hkFil_in p0 p1]; rfl) (fun v4 v5 v6 v7 v8 g1 k1 hb1 hF1 => by
    have hT : ∀ p : Int, 0 ≤ p → p < 840 → g1 84 p = mprod R N A B p := fun p p0 p1 => by
      rw [hF1 p p0 p1, Int.zero_add]
      have := mprod_bd (p := p) hb.1.1 hA hB
      exact hkL_in (x := mprod R N A B p) (by omega) (by omega)
    simp only [x_144_186, x_144_187, x_144_188, hkJK_66, hkJK_83, hkJK_84, jA_66_27, jA_66_28, jL_83, jL_84, jR_66_27, jR_66_28, hkP1_0, hkP1_2, hkP1_u, hkC8, List.map_cons, List.map_nil, List.sum_cons, List.sum_nil, hkCat_0, hkCat_1, hkCat_2, Nat.reduceAdd, Nat.reduceLeDiff, hkPush_s, hkPush_n, true_and, and_true, implies_true, true_implies, not_true_eq_false, not_false_eq_true, false_implies, hkTf_0, hkTf_n1, hkOr01, hkOr11, Int.reduceEq, Int.reduceLT, Int.reduceLE, hk102a, hk102b, hk102c, Nat.reduceEqDiff, or_true, true_or, or_false, false_or, and_false, false_and, Classical.not_not, true_implies, List.set_cons_zero, List.set_cons_succ, ne_eq]
    refine sx_lays (d := d + 10) ht t0 t15 (P := P) (T := mprod R N A B) (by rw [k1.2 29 (by decide), hkFil_row (by decide)]; exact h29) hT (fun g2 m1 m2 m3 m4 m5 m6 => ?_)
    rw [lyK_mul hb.1.1 hA hB] at m3 m5 m6
    simp only [x_144_191, hkJK_66, hkJK_83, hkJK_84, jA_66_27, jA_66_28, jL_83, jL_84, jR_66_27, jR_66_28, hkP1_0, hkP1_2, hkP1_u, hkC8, List.map_cons, List.map_nil, List.sum_cons, List.sum_nil, hkCat_0, hkCat_1, hkCat_2, Nat.reduceAdd, Nat.reduceLeDiff, hkPush_s, hkPush_n, true_and, and_true, implies_true, true_implies, not_true_eq_false, not_false_eq_true, false_implies, hkTf_0, hkTf_n1, hkOr01, hkOr11, Int.reduceEq, Int.reduceLT, Int.reduceLE, hk102a, hk102b, hk102c, Nat.reduceEqDiff, or_true, true_or, or_false, false_or, and_false, false_and, Classical.not_not, true_implies, List.set_cons_zero, List.set_cons_succ, ne_eq]
    have f66 : ∀ k : Int, hkFil g 84 0 840 0 66 k = g 66 k := fun k => by rw [hkFil_row (by decide)]
    refine hQ g2 ⟨fun q hq => by rw [m1 q (by omega) (by omega), k1.1 q (by omega), hkFil_row (by omega)], fun k hk => by rw [m2 k (by omega), k1.2 k (by omega), f66], fun x hx => by rw [m4 x (Or.inl hx), k1.1 83 (by decide), hkFil_row (by decide)]⟩ (RB_s hb1 (fun q q1 q2 => m1 q q2 (by omega)) (fun k _ _ => m2 k (by omega))) m3 m5 m6)
  have K2 : Xp 144 (d + 12) 24 [(2, 66), (0, to), (0, ot), (0, 840), hkU, hkU, hkU, hkU, hkU] [] t (hkFil g 84 0 840 0) Q := by
    simp only [x_144_24, x_144_25, hkJK_66, hkJK_83, hkJK_84, jA_66_27, jA_66_28, jL_83, jL_84, jR_66_27, jR_66_28, hkP1_0, hkP1_2, hkP1_u, hkC8, List.map_cons, List.map_nil, List.sum_cons, List.sum_nil, hkCat_0, hkCat_1, hkCat_2, Nat.reduceAdd, Nat.reduceLeDiff, hkPush_s, hkPush_n, true_and, and_true, implies_true, true_implies, not_true_eq_false, not_false_eq_true, false_implies, hkTf_0, hkTf_n1, hkOr01, hkOr11, Int.reduceEq, Int.reduceLT, Int.reduceLE, hk102a, hk102b, hk102c, Nat.reduceEqDiff, or_true, true_or, or_false, false_or, and_false, false_and, Classical.not_not, true_implies, List.set_cons_zero, List.set_cons_succ, ne_eq]
    repeat' (first | exact K | refine And.intro ?_ ?_ | intro _ | trivial | omega | (exfalso; omega))
  have K3 := l_mm0 (d := d + 12) (Q := Q) (to := to) (ot := ot) ht 840 0 g (by decide) (by decide) K2
  simp only [x_144_0, x_144_1, hkJK_66, hkJK_83, hkJK_84, jA_66_27, jA_66_28, jL_83, jL_84, jR_66_27, jR_66_28, hkP1_0, hkP1_2, hkP1_u, hkC8, List.map_cons, List.map_nil, List.sum_cons, List.sum_nil, hkCat_0, hkCat_1, hkCat_2, Nat.reduceAdd, Nat.reduceLeDiff, hkPush_s, hkPush_n, true_and, and_true, implies_true, true_implies, not_true_eq_false, not_false_eq_true, false_implies, hkTf_0, hkTf_n1, hkOr01, hkOr11, Int.reduceEq, Int.reduceLT, Int.reduceLE, hk102a, hk102b, hk102c, Nat.reduceEqDiff, or_true, true_or, or_false, false_or, and_false, false_and, Classical.not_not, true_implies, List.set_cons_zero, List.set_cons_succ, ne_eq]
  repeat' (first | exact K3 | refine And.intro ?_ ?_ | intro _ | trivial | omega | (exfalso; omega))
end SP
