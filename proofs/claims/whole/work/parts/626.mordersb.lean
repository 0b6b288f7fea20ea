/-! the reference: orders, all of them -/
section SP
variable {t d : Nat} {R N : Int}
theorem l_mo3 (ht : 190 ≤ t) {i j a used sg F : Int} (hi0 : 0 ≤ i) (hi : i < 35) (hj0 : 0 ≤ j) (hj : j < 35) {Q : Option hkV → Nat → hkG → Prop} : ∀ (m k : Nat) (g : hkG), (k : Int) + m = bxC R N → MX g R N → (∀ x : Int, k ≤ x → x < bxC R N → -1000000 ≤ g 70 (35 * (35 * i + j) + x) ∧ g 70 (35 * (35 * i + j) + x) ≤ 1000000 ∧ -1000 ≤ g 76 x ∧ g 76 x ≤ 1000) →
    (∀ g' : hkG, (∀ q : Int, q ≠ 70 → g' q = g q) → (∀ x : Int, k ≤ x → x < bxC R N → g' 70 (35 * (35 * i + j) + x) = g 70 (35 * (35 * i + j) + x) + g 76 x) → (∀ y : Int, y < 35 * (35 * i + j) + k ∨ 35 * (35 * i + j) + bxC R N ≤ y → g' 70 y = g 70 y) → Q none t g') →
    Xp 122 d 91 [(2, 66), (0, i), (0, j), (0, a), (0, used), (0, sg), (0, F), (0, (k : Int))] [] t g Q := by
  intro m
  induction m with
  | zero =>
    intro k g hk hX hB hQ
    obtain ⟨x1, x2, x3, x4, x5⟩ := MX_f hX
    rw [x_122_91]
    simp only [x_122_93, x_122_94, x_122_97, hkJK_66, hkJK_70, hkJK_76, hkJK_79, jA_66_19, jA_66_22, jA_66_6, jL_70, jL_76, jL_79, jR_66_19, jR_66_22, jR_66_6, hkP1_0, hkP1_2, hkP1_u, hkC8, List.map_cons, List.map_nil, List.sum_cons, List.sum_nil, hkCat_0, hkCat_1, hkCat_2, Nat.reduceAdd, Nat.reduceLeDiff, hkPush_s, hkPush_n, true_and, and_true, implies_true, true_implies, not_true_eq_false, not_false_eq_true, false_implies, hkTf_0, hkTf_n1, hkOr01, hkOr11, Int.reduceEq, Int.reduceLT, Int.reduceLE, hk102a, hk102b, hk102c, Nat.reduceEqDiff, or_true, true_or, or_false, false_or, and_false, false_and, Classical.not_not, true_implies, List.set_cons_zero, List.set_cons_succ, ne_eq, x_122_133, hkJK_66, hkJK_70, hkJK_76, hkJK_79, jA_66_19, jA_66_22, jA_66_6, jL_70, jL_76, jL_79, jR_66_19, jR_66_22, jR_66_6, hkP1_0, hkP1_2, hkP1_u, hkC8, List.map_cons, List.map_nil, List.sum_cons, List.sum_nil, hkCat_0, hkCat_1, hkCat_2, Nat.reduceAdd, Nat.reduceLeDiff, hkPush_s, hkPush_n, true_and, and_true, implies_true, true_implies, not_true_eq_false, not_false_eq_true, false_implies, hkTf_0, hkTf_n1, hkOr01, hkOr11, Int.reduceEq, Int.reduceLT, Int.reduceLE, hk102a, hk102b, hk102c, Nat.reduceEqDiff, or_true, true_or, or_false, false_or, and_false, false_and, Classical.not_not, true_implies, List.set_cons_zero, List.set_cons_succ, ne_eq, hkLe_t ht, x3]
    exact ⟨fun _ => hQ g (fun _ _ => rfl) (fun x _ _ => by omega) (fun _ _ => rfl), fun h => absurd (by omega) h⟩
  | succ m ih =>
    intro k g hk hX hB hQ
    have hc := bx_C hX.1
    obtain ⟨x1, x2, x3, x4, x5⟩ := MX_f hX
    have hBk := hB k (by omega) (by omega)
    obtain ⟨hw, e1, e2, e3, e4, e5⟩ : hkW ((k : Int) + 1) = ((k + 1 : Nat) : Int) ∧ hkW (35 * i) = 35 * i ∧ hkW (35 * i + j) = 35 * i + j ∧ hkW (35 * (35 * i + j)) = 35 * (35 * i + j) ∧ hkW (35 * (35 * i + j) + k) = 35 * (35 * i + j) + k ∧ hkW (g 70 (35 * (35 * i + j) + k) + g 76 k) = g 70 (35 * (35 * i + j) + k) + g 76 k := ⟨by rw [hkW_in (by omega) (by omega)]; omega, hkW_in (by omega) (by omega), hkW_in (by omega) (by omega), hkW_in (by omega) (by omega), hkW_in (by omega) (by omega), hkW_in (by omega) (by omega)⟩
    rw [x_122_91]
    simp only [x_122_93, x_122_94, x_122_97, x_122_100, x_122_101, x_122_104, x_122_106, x_122_108, x_122_109, x_122_110, x_122_111, x_122_112, x_122_113, x_122_115, x_122_116, x_122_117, x_122_118, x_122_119, x_122_122, x_122_124, x_122_125, x_122_126, x_122_127, x_122_130, hkJK_66, hkJK_70, hkJK_76, hkJK_79, jA_66_19, jA_66_22, jA_66_6, jL_70, jL_76, jL_79, jR_66_19, jR_66_22, jR_66_6, hkP1_0, hkP1_2, hkP1_u, hkC8, List.map_cons, List.map_nil, List.sum_cons, List.sum_nil, hkCat_0, hkCat_1, hkCat_2, Nat.reduceAdd, Nat.reduceLeDiff, hkPush_s, hkPush_n, true_and, and_true, implies_true, true_implies, not_true_eq_false, not_false_eq_true, false_implies, hkTf_0, hkTf_n1, hkOr01, hkOr11, Int.reduceEq, Int.reduceLT, Int.reduceLE, hk102a, hk102b, hk102c, Nat.reduceEqDiff, or_true, true_or, or_false, false_or, and_false, false_and, Classical.not_not, true_implies, List.set_cons_zero, List.set_cons_succ, ne_eq, hkLe_t ht, x3, e1, e2, e3, e4, e5, hw]
    clear hw e1 e2 e3 e4 e5
    refine ⟨fun h => absurd h (by omega), fun _ => ⟨by omega, by omega, by omega, ?_⟩⟩
    refine ih (k + 1) _ (by omega) (moKeep_X (moKeep_s (by decide)) hX) (fun x h0 h1 => ?_) (fun g' k1 k2 k3 => hQ g' (fun q hq => by rw [k1 q hq, hkSet_row hq]) (fun x h0 h1 => ?_) (fun y hy => ?_))
    · rw [hkSet_rd, if_neg (by omega), hkSet_row (by decide)]; exact hB x (by omega) h1
    · by_cases e : x = k
      · rw [e, k3 _ (by omega), hkSet_rd, if_pos ⟨rfl, rfl⟩]
      · rw [k2 x (by omega) h1, hkSet_rd, if_neg (by omega), hkSet_row (by decide)]
    · rw [k3 y (by omega), hkSet_rd, if_neg (by omega)]
theorem pq_fU {R N i j : Int} {o : Int → Int} {a : Nat} {x : Int} : pq R N i j (fU o a x) (a + 1) = (pq R N i j o a + (bxL R N j a + x - a)) % N := by
  have e : fU o a x a = x := by unfold fU; rw [if_pos rfl]
  show (pq R N i j (fU o a x) a + (bxL R N j a + fU o a x a - a)) % N = _
  rw [e, pq_cong a (fun y h0 h1 => by show fU o a x y = o y; unfold fU; rw [if_neg (by omega)])]
theorem pv_fU {R N i j : Int} {o : Int → Int} {a : Nat} {x : Int} : pv R N i j (fU o a x) (a + 1) = mpW R N (pq R N i j o a) (bxL R N j a + x - a) (pv R N i j o a) := by
  have e : fU o a x a = x := by unfold fU; rw [if_pos rfl]
  show mpW R N (pq R N i j (fU o a x) a) (bxL R N j a + fU o a x a - a) (pv R N i j (fU o a x) a) = _
  rw [e, pq_cong a (fun y h0 h1 => by show fU o a x y = o y; unfold fU; rw [if_neg (by omega)]), pv_cong a (fun y h0 h1 => by show fU o a x y = o y; unfold fU; rw [if_neg (by omega)])]
def moT (R N i j : Int) (m : Nat) (a : Nat) (used : Int) (o : Int → Int) (sg : Int) (k : Int) : Int := if bxQ R N k = (bxZ R N i + bxZ R N j) % N then ordM R N j (bxF R N j) m a used (pq R N i j o a) (pv R N i j o a) sg (bxSl R N k) else 0
theorem l_morders (ht : 190 ≤ t) (hb : bxOk R N) {i j : Int} (hi0 : 0 ≤ i) (hi : i < bxC R N) (hj0 : 0 ≤ j) (hj : j < bxC R N) : ∀ (m a : Nat) (used sg B : Int) (o : Int → Int) (g : hkG) (Q : Option hkV → Nat → hkG → Prop), (a : Int) + m = bxF R N j → 0 ≤ used ∧ used < 2 ^ (bxF R N j).toNat → pbN used.toNat = a → pq R N i j o a = (bxZ R N i + zS R N j a + (sS used.toNat : Nat)) % N → (sg = 1 ∨ sg = -1) → 0 ≤ B → B + 1000 * 4 ^ m ≤ 1000000 → MX g R N → (∀ x : Int, 0 ≤ x → x < a → g 79 x = o x ∧ 0 ≤ o x ∧ o x < 4) → (∀ x : Int, 0 ≤ x → x < bxC R N → -B ≤ g 70 (35 * (35 * i + j) + x) ∧ g 70 (35 * (35 * i + j) + x) ≤ B) →
    (∀ g' : hkG, moKeep g g' → (∀ x : Int, x < a → g' 79 x = g 79 x) → (∀ y : Int, y < 35 * (35 * i + j) ∨ 35 * (35 * i + j) + bxC R N ≤ y → g' 70 y = g 70 y) → (∀ x : Int, 0 ≤ x → x < bxC R N → g' 70 (35 * (35 * i + j) + x) = g 70 (35 * (35 * i + j) + x) + moT R N i j m a used o sg x) → (∀ x : Int, 0 ≤ x → x < bxC R N → -(B + 1000 * 4 ^ m) ≤ g' 70 (35 * (35 * i + j) + x) ∧ g' 70 (35 * (35 * i + j) + x) ≤ B + 1000 * 4 ^ m) → Q none t g') →
    Xp 122 (d + m + 6) 0 [(2, 66), (0, i), (0, j), (0, (a : Int)), (0, used), (0, sg), hkU, hkU] [] t g Q := by
  obtain ⟨b1, b2, b3, b4⟩ := id hb
  have hc := bx_C hb
  obtain ⟨f1, f2, f3⟩ := bx_F hb hj0 hj
  intro m
  induction m with
  | zero =>
    intro a used sg B o g Q hm hu hpb hq hsg hB0 hB hX h79 h70 hQ
    simp only [x_122_0, x_122_1, x_122_2, x_122_5, x_122_7, x_122_8, x_122_10, x_122_13, x_122_14, hkJK_66, hkJK_70, hkJK_76, hkJK_79, jA_66_19, jA_66_22, jA_66_6, jL_70, jL_76, jL_79, jR_66_19, jR_66_22, jR_66_6, hkP1_0, hkP1_2, hkP1_u, hkC8, List.map_cons, List.map_nil, List.sum_cons, List.sum_nil, hkCat_0, hkCat_1, hkCat_2, Nat.reduceAdd, Nat.reduceLeDiff, hkPush_s, hkPush_n, true_and, and_true, implies_true, true_implies, not_true_eq_false, not_false_eq_true, false_implies, hkTf_0, hkTf_n1, hkOr01, hkOr11, Int.reduceEq, Int.reduceLT, Int.reduceLE, hk102a, hk102b, hk102c, Nat.reduceEqDiff, or_true, true_or, or_false, false_or, and_false, false_and, Classical.not_not, true_implies, List.set_cons_zero, List.set_cons_succ, ne_eq, hkLe_t ht, sx_mFull (d := d + 0 + 4) ht hX hj0 hj]
    refine ⟨fun h => absurd (by omega) h, fun he => ?_⟩
    have hFn : (bxF R N j).toNat = a := by omega
    rw [hFn] at hu
    have hus := sSend a (by omega) used.toNat (by have : ((2 : Int) ^ a) = ((2 ^ a : Nat) : Int) := by rw [Int.natCast_pow]; rfl
                                                  omega) (by omega)
    have hz := zS_end hb hj0 hj
    rw [hFn, ← hus] at hz
    rw [show bxZ R N i + zS R N j a + (sS used.toNat : Nat) = bxZ R N i + bxZ R N j from by omega] at hq
    simp only [Int.pow_zero, Int.mul_one] at hB hQ
    refine l_mo1 ht (bxC R N).toNat 0 g (by omega) hX (fun g1 k1 k2 k3 => ?_)
    have hX1 : MX g1 R N := MX_row hX (fun _ _ => by rw [k1 66 (by decide)]) (k1 67 (by decide)) (k1 68 (by decide)) (k1 69 (by decide))
    simp only [x_122_50, x_122_51, hkJK_66, hkJK_70, hkJK_76, hkJK_79, jA_66_19, jA_66_22, jA_66_6, jL_70, jL_76, jL_79, jR_66_19, jR_66_22, jR_66_6, hkP1_0, hkP1_2, hkP1_u, hkC8, List.map_cons, List.map_nil, List.sum_cons, List.sum_nil, hkCat_0, hkCat_1, hkCat_2, Nat.reduceAdd, Nat.reduceLeDiff, hkPush_s, hkPush_n, true_and, and_true, implies_true, true_implies, not_true_eq_false, not_false_eq_true, false_implies, hkTf_0, hkTf_n1, hkOr01, hkOr11, Int.reduceEq, Int.reduceLT, Int.reduceLE, hk102a, hk102b, hk102c, Nat.reduceEqDiff, or_true, true_or, or_false, false_or, and_false, false_and, Classical.not_not, true_implies, List.set_cons_zero, List.set_cons_succ, ne_eq]
    refine l_mo2 ht hj0 hj hsg (o := o) (bxF R N j).toNat 0 g1 (by omega) hX1 (fun x a1 a2 => by rw [k1 79 (by decide)]; exact h79 x a1 (by omega)) (fun x a1 a2 => ?_) (fun g2 l1 l2 => ?_)
    · rw [k2 x (by omega) a2]
      unfold gV pq pv
      by_cases e : x = i
      · rw [if_pos e, if_pos (by rw [e]), if_pos (by rw [e]), Int.mul_one]
      · rw [if_neg e]
        by_cases e2 : bxQ R N x = bxQ R N i
        · rw [if_pos e2, if_neg (fun h => e (bxSl_inj a1 hi0 e2 h)), Int.mul_zero]
        · rw [if_neg e2]
    · have hX2 := tmKeep_X l1 hX1
      have k70 : g2 70 = g 70 := by rw [l1.1 70 (by decide) (by decide) (by decide) (by decide) (by decide), k1 70 (by decide)]
      obtain ⟨p1, p2⟩ := pow5 a (by omega)
      rw [hFn] at l2
      have hT : ∀ x : Int, gV R N (pq R N i j o a) (pv R N i j o a) sg x = moT R N i j 0 a used o sg x := by
        intro x
        unfold gV moT
        rw [hq]; rfl
      have hle : ∀ x : Int, 0 ≤ x → x < bxC R N → -1000 ≤ g2 76 x ∧ g2 76 x ≤ 1000 := by
        intro x a1 a2
        rw [l2 x a1 a2]
        obtain ⟨z1, z2⟩ := bxSl_K a1 a2
        have hq0 : 0 ≤ bxQ R N x := Int.emod_nonneg _ (by omega)
        have hq1 : bxQ R N x < N := Int.emod_lt_of_pos _ (by omega)
        have z3 := (bx_A hb hq0 hq1).1
        have := pv_le (i := i) (j := j) (o := o) hb a (bxSl R N x) z1 (by omega)
        unfold gV
        split
        · rcases hsg with h | h <;> rw [h] <;> omega
        · omega
      simp only [x_122_88, x_122_89, hkJK_66, hkJK_70, hkJK_76, hkJK_79, jA_66_19, jA_66_22, jA_66_6, jL_70, jL_76, jL_79, jR_66_19, jR_66_22, jR_66_6, hkP1_0, hkP1_2, hkP1_u, hkC8, List.map_cons, List.map_nil, List.sum_cons, List.sum_nil, hkCat_0, hkCat_1, hkCat_2, Nat.reduceAdd, Nat.reduceLeDiff, hkPush_s, hkPush_n, true_and, and_true, implies_true, true_implies, not_true_eq_false, not_false_eq_true, false_implies, hkTf_0, hkTf_n1, hkOr01, hkOr11, Int.reduceEq, Int.reduceLT, Int.reduceLE, hk102a, hk102b, hk102c, Nat.reduceEqDiff, or_true, true_or, or_false, false_or, and_false, false_and, Classical.not_not, true_implies, List.set_cons_zero, List.set_cons_succ, ne_eq]
      refine l_mo3 ht hi0 (by omega) hj0 (by omega) (bxC R N).toNat 0 g2 (by omega) hX2 (fun x a1 a2 => ?_) (fun g3 m1 m2 m3 => hQ g3 ?_ (fun x hx => ?_) (fun y hy => ?_) (fun x a1 a2 => ?_) (fun x a1 a2 => ?_))
      · have h1 := h70 x (by omega) a2
        have h2 := hle x (by omega) a2
        rw [k70]; omega
      · refine moKeep_t (moKeep_t ⟨fun q q1 q2 q3 q4 q5 q6 q7 => k1 q q4, fun k q1 q2 q3 => by rw [k1 66 (by decide)]⟩ (moKeep_m l1)) ⟨fun q q1 q2 q3 q4 q5 q6 q7 => m1 q q2, fun k q1 q2 q3 => by rw [m1 66 (by decide)]⟩
      · rw [m1 79 (by decide), l1.1 79 (by decide) (by decide) (by decide) (by decide) (by decide), k1 79 (by decide)]
      · rw [m3 y (by omega), k70]
      · rw [m2 x (by omega) a2, k70, l2 x a1 a2, hT]
      · have h1 := h70 x a1 a2
        have h2 := hle x a1 a2
        rw [m2 x (by omega) a2, k70]; omega
  | succ m ih =>
    intro a used sg B o g Q hm hu hpb hq hsg hB0 hB hX h79 h70 hQ
    rw [show d + (m + 1) + 6 = d + m + 6 + 1 from by omega]
    simp only [x_122_0, x_122_1, x_122_2, x_122_5, x_122_7, x_122_8, x_122_10, x_122_13, x_122_14, hkJK_66, hkJK_70, hkJK_76, hkJK_79, jA_66_19, jA_66_22, jA_66_6, jL_70, jL_76, jL_79, jR_66_19, jR_66_22, jR_66_6, hkP1_0, hkP1_2, hkP1_u, hkC8, List.map_cons, List.map_nil, List.sum_cons, List.sum_nil, hkCat_0, hkCat_1, hkCat_2, Nat.reduceAdd, Nat.reduceLeDiff, hkPush_s, hkPush_n, true_and, and_true, implies_true, true_implies, not_true_eq_false, not_false_eq_true, false_implies, hkTf_0, hkTf_n1, hkOr01, hkOr11, Int.reduceEq, Int.reduceLT, Int.reduceLE, hk102a, hk102b, hk102c, Nat.reduceEqDiff, or_true, true_or, or_false, false_or, and_false, false_and, Classical.not_not, true_implies, List.set_cons_zero, List.set_cons_succ, ne_eq, x_122_134, x_122_135, hkJK_66, hkJK_70, hkJK_76, hkJK_79, jA_66_19, jA_66_22, jA_66_6, jL_70, jL_76, jL_79, jR_66_19, jR_66_22, jR_66_6, hkP1_0, hkP1_2, hkP1_u, hkC8, List.map_cons, List.map_nil, List.sum_cons, List.sum_nil, hkCat_0, hkCat_1, hkCat_2, Nat.reduceAdd, Nat.reduceLeDiff, hkPush_s, hkPush_n, true_and, and_true, implies_true, true_implies, not_true_eq_false, not_false_eq_true, false_implies, hkTf_0, hkTf_n1, hkOr01, hkOr11, Int.reduceEq, Int.reduceLT, Int.reduceLE, hk102a, hk102b, hk102c, Nat.reduceEqDiff, or_true, true_or, or_false, false_or, and_false, false_and, Classical.not_not, true_implies, List.set_cons_zero, List.set_cons_succ, ne_eq, hkLe_t ht, sx_mFull (d := d + m + 5) ht hX hj0 hj]
    refine ⟨fun _ => ?_, fun h => absurd h (by omega)⟩
    have h4 : (1000 : Int) * 4 ^ (m + 1) = 4 * (1000 * 4 ^ m) := by rw [Int.pow_succ]; omega
    rw [h4] at hB hQ
    have hP0 : (0 : Int) ≤ 1000 * 4 ^ m := by
      have : (0 : Int) ≤ 4 ^ m := Int.pow_nonneg (by decide)
      omega
    generalize hPdef : (1000 : Int) * 4 ^ m = P at hB hQ hP0
    have hu16 : used < 16 := by
      have : ((2 : Int) ^ (bxF R N j).toNat) ≤ 2 ^ 4 := by exact_mod_cast Nat.pow_le_pow_right (by decide) (show (bxF R N j).toNat ≤ 4 by omega)
      omega
    have hcast : ((2 : Int) ^ (bxF R N j).toNat) = ((2 ^ (bxF R N j).toNat : Nat) : Int) := by rw [Int.natCast_pow]; rfl
    have ha1 : ((a + 1 : Nat) : Int) = (a : Int) + 1 := by omega
    have LP : ∀ (c x : Nat) (g1 : hkG) (B1 : Int), (x : Int) + c = bxF R N j → 0 ≤ B1 → B1 + c * P ≤ 1000000 → moKeep g g1 → (∀ y : Int, y < a → g1 79 y = g 79 y) → (∀ y : Int, y < 35 * (35 * i + j) ∨ 35 * (35 * i + j) + bxC R N ≤ y → g1 70 y = g 70 y) → (∀ z : Int, 0 ≤ z → z < bxC R N → -B1 ≤ g1 70 (35 * (35 * i + j) + z) ∧ g1 70 (35 * (35 * i + j) + z) ≤ B1) →
        (∀ g' : hkG, moKeep g g' → (∀ y : Int, y < a → g' 79 y = g 79 y) → (∀ y : Int, y < 35 * (35 * i + j) ∨ 35 * (35 * i + j) + bxC R N ≤ y → g' 70 y = g 70 y) → (∀ z : Int, 0 ≤ z → z < bxC R N → g' 70 (35 * (35 * i + j) + z) = g1 70 (35 * (35 * i + j) + z) + (if bxQ R N z = (bxZ R N i + bxZ R N j) % N then ((List.range' x c).map (ordU R N j (bxF R N j) m a used (pq R N i j o a) (pv R N i j o a) sg (bxSl R N z))).sum else 0)) → (∀ z : Int, 0 ≤ z → z < bxC R N → -(B1 + c * P) ≤ g' 70 (35 * (35 * i + j) + z) ∧ g' 70 (35 * (35 * i + j) + z) ≤ B1 + c * P) → Q none t g') →
        Xp 122 (d + m + 6 + 1) 137 [(2, 66), (0, i), (0, j), (0, (a : Int)), (0, used), (0, sg), (0, bxF R N j), (0, (x : Int))] [] t g1 Q := by
      intro c
      induction c with
      | zero =>
        intro x g1 B1 hx p0 p1 p2 p3 p4 p5 pQ
        rw [x_122_137]
        simp only [x_122_139, x_122_141, hkJK_66, hkJK_70, hkJK_76, hkJK_79, jA_66_19, jA_66_22, jA_66_6, jL_70, jL_76, jL_79, jR_66_19, jR_66_22, jR_66_6, hkP1_0, hkP1_2, hkP1_u, hkC8, List.map_cons, List.map_nil, List.sum_cons, List.sum_nil, hkCat_0, hkCat_1, hkCat_2, Nat.reduceAdd, Nat.reduceLeDiff, hkPush_s, hkPush_n, true_and, and_true, implies_true, true_implies, not_true_eq_false, not_false_eq_true, false_implies, hkTf_0, hkTf_n1, hkOr01, hkOr11, Int.reduceEq, Int.reduceLT, Int.reduceLE, hk102a, hk102b, hk102c, Nat.reduceEqDiff, or_true, true_or, or_false, false_or, and_false, false_and, Classical.not_not, true_implies, List.set_cons_zero, List.set_cons_succ, ne_eq, x_122_208, hkJK_66, hkJK_70, hkJK_76, hkJK_79, jA_66_19, jA_66_22, jA_66_6, jL_70, jL_76, jL_79, jR_66_19, jR_66_22, jR_66_6, hkP1_0, hkP1_2, hkP1_u, hkC8, List.map_cons, List.map_nil, List.sum_cons, List.sum_nil, hkCat_0, hkCat_1, hkCat_2, Nat.reduceAdd, Nat.reduceLeDiff, hkPush_s, hkPush_n, true_and, and_true, implies_true, true_implies, not_true_eq_false, not_false_eq_true, false_implies, hkTf_0, hkTf_n1, hkOr01, hkOr11, Int.reduceEq, Int.reduceLT, Int.reduceLE, hk102a, hk102b, hk102c, Nat.reduceEqDiff, or_true, true_or, or_false, false_or, and_false, false_and, Classical.not_not, true_implies, List.set_cons_zero, List.set_cons_succ, ne_eq]
        refine ⟨fun _ => pQ g1 p2 p3 p4 (fun z z0 z1 => by simp) (fun z z0 z1 => by have := p5 z z0 z1; simp only [Int.natCast_zero, Int.zero_mul]; omega), fun h => absurd (by omega) h⟩
      | succ c ihc =>
        intro x g1 B1 hx p0 p1 p2 p3 p4 p5 pQ
        have hcP : ((c + 1 : Nat) : Int) * P = c * P + P := by rw [Int.natCast_succ, Int.add_mul, Int.one_mul]
        rw [hcP] at p1 pQ
        have hcP0 : 0 ≤ (c : Int) * P := Int.mul_nonneg (by omega) hP0
        have hX1 : MX g1 R N := moKeep_X p2 hX
        simp only [List.range'_succ, List.map_cons, List.sum_cons] at pQ
        have hxN : (x : Int) + 1 = ((x + 1 : Nat) : Int) := by omega
        obtain ⟨w1, w2⟩ := shr16 used.toNat (by omega) x (by omega)
        rw [show ((used.toNat : Nat) : Int) = used from by omega] at w1 w2
        obtain ⟨w, hw⟩ : ∃ w : Nat, hkShr used ((x : Int) + 1) = (w : Int) := ⟨(hkShr used ((x : Int) + 1)).toNat, by omega⟩
        have hw128 : w < 128 := by omega
        have hpm : ((pbN w : Nat) : Int).tmod 2 = (pbN w : Int) % 2 := Int.tmod_eq_emod_of_nonneg (by omega)
        obtain ⟨e1, e2, e3⟩ : hkW ((x : Int) + 1) = (x : Int) + 1 ∧ hkW ((a : Int) + 1) = (a : Int) + 1 ∧ hkW (-sg) = -sg := ⟨hkW_in (by omega) (by omega), hkW_in (by omega) (by omega), hkW_in (by omega) (by omega)⟩
        rw [x_122_137]
        simp only [x_122_139, x_122_141, x_122_144, x_122_146, x_122_148, x_122_149, x_122_150, x_122_151, x_122_154, x_122_155, x_122_158, x_122_159, x_122_161, x_122_162, x_122_163, x_122_164, x_122_165, x_122_166, x_122_167, x_122_168, x_122_170, x_122_171, x_122_173, x_122_174, x_122_175, x_122_177, x_122_179, x_122_180, x_122_181, x_122_182, x_122_185, x_122_186, x_122_187, x_122_188, x_122_191, x_122_193, x_122_194, x_122_197, x_122_199, x_122_202, x_122_205, hkJK_66, hkJK_70, hkJK_76, hkJK_79, jA_66_19, jA_66_22, jA_66_6, jL_70, jL_76, jL_79, jR_66_19, jR_66_22, jR_66_6, hkP1_0, hkP1_2, hkP1_u, hkC8, List.map_cons, List.map_nil, List.sum_cons, List.sum_nil, hkCat_0, hkCat_1, hkCat_2, Nat.reduceAdd, Nat.reduceLeDiff, hkPush_s, hkPush_n, true_and, and_true, implies_true, true_implies, not_true_eq_false, not_false_eq_true, false_implies, hkTf_0, hkTf_n1, hkOr01, hkOr11, Int.reduceEq, Int.reduceLT, Int.reduceLE, hk102a, hk102b, hk102c, Nat.reduceEqDiff, or_true, true_or, or_false, false_or, and_false, false_and, Classical.not_not, true_implies, List.set_cons_zero, List.set_cons_succ, ne_eq, hkLe_t ht, e1, e2, e3, hw, sx_bits hw128, hpm]
        clear e1 e2 e3
        have CH : hkAnd (hkShr used x) 1 = 0 → ∀ sg' : Int, sg' = sg * sgO used x → Xp 122 (d + m + 6) 0 [(2, 66), (0, i), (0, j), (0, (a : Int) + 1), (0, hkOr used (hkShl 1 x)), (0, sg'), hkU, hkU] [] t (hkSet g1 79 a x) (fun r t g => Xp 122 (d + m + 6 + 1) 137 [(2, 66), (0, i), (0, j), (0, (a : Int)), (0, used), (0, sg), (0, bxF R N j), (0, (x : Int) + 1)] (hkPush r []) t g Q) := by
          intro hbit sg' hsg'
          have hsg2 : sg' = 1 ∨ sg' = -1 := by
            rw [hsg']
            rcases hsg with h | h <;> rcases sgO_1 (used := used) (o := (x : Int)) with h2 | h2 <;> rw [h, h2] <;> decide
          have hun : ((used.toNat : Nat) : Int) = used := by omega
          have S1 := sSAll used.toNat (by omega) x (by omega) (by rw [hun]; exact hbit)
          have S2 := sSlt (bxF R N j).toNat (by omega) x (by omega) used.toNat (by omega)
          rw [hun] at S1 S2
          obtain ⟨S3, S4, -⟩ := S1
          obtain ⟨u1, u2⟩ := used_16 (u := used) (o := (x : Int)) (by omega) (by omega)
          have hX2 : MX (hkSet g1 79 a x) R N := moKeep_X (moKeep_s (by decide)) hX1
          rw [← ha1]
          refine ih (a + 1) (hkOr used (hkShl 1 x)) sg' B1 (fU o a x) (hkSet g1 79 a x) _ (by omega) ⟨u1.1, by omega⟩ (by rw [S4]; omega) ?_ hsg2 p0 (by rw [hPdef]; omega) hX2 (fun y y0 y1 => ?_) (fun z z0 z1 => by rw [hkSet_row (by decide)]; exact p5 z z0 z1) (fun g3 l1 l2 l3 l4 l5 => ?_)
          · have hzs : zS R N j (a + 1) = zS R N j a + bxL R N j a - a := rfl
            rw [pq_fU, hq, Int.emod_add_emod, S3, hzs]
            congr 1
            omega
          · unfold fU
            by_cases e : y = a
            · rw [if_pos e, hkSet_rd, if_pos ⟨rfl, e⟩]
              exact ⟨rfl, by omega, by omega⟩
            · rw [if_neg e, hkSet_rd, if_neg (fun h => e h.2), p3 y (by omega)]
              exact h79 y y0 (by omega)
          · have hkp : hkPush none [] = [] := rfl
            rw [hkp, hxN]
            rw [hPdef] at l5
            refine ihc (x + 1) g3 (B1 + P) (by omega) (by omega) (by omega) (moKeep_t p2 (moKeep_t (moKeep_s (by decide)) l1)) (fun y hy => by rw [l2 y (by omega), hkSet_rd, if_neg (by omega)]; exact p3 y hy) (fun y hy => by rw [l3 y hy, hkSet_row (by decide)]; exact p4 y hy) l5 (fun g' r1 r2 r3 r4 r5 => pQ g' r1 r2 r3 (fun z z0 z1 => ?_) (fun z z0 z1 => ?_))
            · rw [r4 z z0 z1, l4 z z0 z1, hkSet_row (by decide)]
              unfold moT
              by_cases e : bxQ R N z = (bxZ R N i + bxZ R N j) % N
              · rw [if_pos e, if_pos e, if_pos e]
                have : ordU R N j (bxF R N j) m a used (pq R N i j o a) (pv R N i j o a) sg (bxSl R N z) x = ordM R N j (bxF R N j) m ((a + 1 : Nat) : Int) (hkOr used (hkShl 1 x)) (pq R N i j (fU o a x) (a + 1)) (pv R N i j (fU o a x) (a + 1)) sg' (bxSl R N z) := by
                  unfold ordU
                  rw [if_pos hbit, pq_fU, pv_fU, hsg', ha1]
                rw [this]; omega
              · rw [if_neg e, if_neg e, if_neg e]; omega
            · have := r5 z z0 z1; omega
        refine ⟨fun h => absurd h (by omega), fun _ => ⟨fun h => ?_, fun h => ⟨by omega, ?_⟩⟩⟩
        · rw [hxN]
          refine ihc (x + 1) g1 B1 (by omega) p0 (by omega) p2 p3 p4 p5 (fun g' r1 r2 r3 r4 r5 => pQ g' r1 r2 r3 (fun z z0 z1 => ?_) (fun z z0 z1 => ?_))
          · rw [r4 z z0 z1]
            have : ordU R N j (bxF R N j) m a used (pq R N i j o a) (pv R N i j o a) sg (bxSl R N z) x = 0 := by
              unfold ordU; rw [if_neg h]
            rw [this, Int.zero_add]
          · have := r5 z z0 z1; omega
        · have S1 := (sSAll used.toNat (by omega) x (by omega) (by rw [show ((used.toNat : Nat) : Int) = used from by omega]; exact h)).2.2
          rw [show ((used.toNat : Nat) : Int) = used from by omega, hw, Int.toNat_natCast] at S1
          refine ⟨fun h2 => CH h sg ?_, fun h2 => CH h (-sg) ?_⟩
          · unfold sgO; rw [if_pos (by omega)]; omega
          · unfold sgO; rw [if_neg (by omega)]; omega
    refine LP (bxF R N j).toNat 0 g B (by omega) hB0 ?_ moKeep_r (fun _ _ => rfl) (fun _ _ => rfl) h70 (fun g' l1 l2 l3 l4 l5 => hQ g' l1 l2 l3 (fun z z0 z1 => ?_) (fun z z0 z1 => ?_))
    · have : ((bxF R N j).toNat : Int) * P ≤ 4 * P := Int.mul_le_mul_of_nonneg_right (by omega) hP0
      omega
    · rw [l4 z z0 z1]; unfold moT; rw [ordM_s, List.range_eq_range']
    · have h5 := l5 z z0 z1
      have : ((bxF R N j).toNat : Int) * P ≤ 4 * P := Int.mul_le_mul_of_nonneg_right (by omega) hP0
      omega
end SP
