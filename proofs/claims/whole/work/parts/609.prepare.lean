/-! Roots: prepare, choose -/
/-- the tables of powers are those of the box -/
def RDY (g : hkG) (R N : Int) : Prop := ∀ r e : Nat, (r : Int) < N → e < 7 → g 19 (7 * (r : Int) + e) = rtX R N r ^ e % 2521 ∧ g 20 (7 * (r : Int) + e) = (rtX R N r ^ 2519 % 2521) ^ e % 2521
section SP
variable {t d : Nat} {R N : Int} {Q : Option hkV → Nat → hkG → Prop}
theorem l_prepare (ht : 46 ≤ t) (hb : bxOk R N) : ∀ (f n : Nat) (g : hkG), n + f = 2521 → 1 ≤ n → g 1 1 = N →
    (∀ r e : Nat, r < rtC R N n → e < 7 → g 19 (7 * (r : Int) + e) = rtX R N r ^ e % 2521 ∧ g 20 (7 * (r : Int) + e) = (rtX R N r ^ 2519 % 2521) ^ e % 2521) →
    (∀ g' : hkG, (∀ q : Int, q ≠ 17 → q ≠ 19 → q ≠ 20 → g' q = g q) → g' 17 5 = 1 → RDY g' R N → Q none t g') →
    Xp 63 (d + 2) 24 [(2, 17), (0, rtW R), (0, ((rtC R N n : Nat) : Int)), (0, (n : Int))] [] t g Q := by
  obtain ⟨b1, b2, b3, b4⟩ := id hb
  obtain ⟨h1, h2, h3, h4⟩ := rt_end hb
  have hNN : N = ((N.toNat : Nat) : Int) := by omega
  intro f
  induction f with
  | zero =>
    intro n g hn hn1 hg hr hQ
    have e : n = 2521 := by omega
    subst e
    rw [x_63_24]
    simp only [x_63_25, x_63_28, x_63_31, x_63_32, x_63_33, x_63_36, x_63_39, hkJK_1, hkJK_17, hkJK_19, hkJK_20, jA_17_1, jA_17_2, jA_17_3, jL_19, jL_20, jR_17_1, jR_17_2, jR_17_3, hkP1_0, hkP1_2, hkP1_u, hkC8, List.map_cons, List.map_nil, List.sum_cons, List.sum_nil, hkCat_0, hkCat_1, hkCat_2, Nat.reduceAdd, Nat.reduceLeDiff, hkPush_s, hkPush_n, true_and, and_true, implies_true, true_implies, not_true_eq_false, not_false_eq_true, false_implies, hkTf_0, hkTf_n1, hkOr01, hkOr11, Int.reduceEq, Int.reduceLT, Int.reduceLE, hk102a, hk102b, hk102c, Nat.reduceEqDiff, or_true, true_or, or_false, false_or, and_false, false_and, Classical.not_not, true_implies, List.set_cons_zero, List.set_cons_succ, ne_eq, x_63_89, x_63_90, x_63_91, x_63_94, hkJK_1, hkJK_17, hkJK_19, hkJK_20, jA_17_1, jA_17_2, jA_17_3, jL_19, jL_20, jR_17_1, jR_17_2, jR_17_3, hkP1_0, hkP1_2, hkP1_u, hkC8, List.map_cons, List.map_nil, List.sum_cons, List.sum_nil, hkCat_0, hkCat_1, hkCat_2, Nat.reduceAdd, Nat.reduceLeDiff, hkPush_s, hkPush_n, true_and, and_true, implies_true, true_implies, not_true_eq_false, not_false_eq_true, false_implies, hkTf_0, hkTf_n1, hkOr01, hkOr11, Int.reduceEq, Int.reduceLT, Int.reduceLE, hk102a, hk102b, hk102c, Nat.reduceEqDiff, or_true, true_or, or_false, false_or, and_false, false_and, Classical.not_not, true_implies, List.set_cons_zero, List.set_cons_succ, ne_eq, hkLe_t ht, hg]
    refine ⟨fun _ => ?_, fun h => absurd (by decide) h⟩
    refine hQ _ (fun q q1 q2 q3 => hkSet_row q1) (by rw [hkSet_rd, if_pos ⟨rfl, rfl⟩]) (fun r e hr1 he => ?_)
    rw [hkSet_row (by decide), hkSet_row (by decide)]
    exact hr r e (by omega) he
  | succ f ih =>
    intro n g hn hn1 hg hr hQ
    obtain ⟨a1, a2⟩ := rt_at hb (x := n) hn1 (by omega)
    have hw : hkW ((n : Int) + 1) = ((n + 1 : Nat) : Int) := by rw [hkW_in (by omega) (by omega)]; omega
    have hw2 : hkW (((rtC R N n : Nat) : Int) + 1) = ((rtC R N n + 1 : Nat) : Int) := by have := h3 n; rw [hkW_in (by omega) (by omega)]; omega
    rw [x_63_24]
    simp only [x_63_25, x_63_28, x_63_31, x_63_32, x_63_33, x_63_36, x_63_39, x_63_42, x_63_43, x_63_44, x_63_47, x_63_50, x_63_53, x_63_54, x_63_57, x_63_58, x_63_59, x_63_62, x_63_63, x_63_64, x_63_67, x_63_68, x_63_69, x_63_72, x_63_73, x_63_74, x_63_77, x_63_80, x_63_83, x_63_86, x_63_89, x_63_90, x_63_91, x_63_94, hkJK_1, hkJK_17, hkJK_19, hkJK_20, jA_17_1, jA_17_2, jA_17_3, jL_19, jL_20, jR_17_1, jR_17_2, jR_17_3, hkP1_0, hkP1_2, hkP1_u, hkC8, List.map_cons, List.map_nil, List.sum_cons, List.sum_nil, hkCat_0, hkCat_1, hkCat_2, Nat.reduceAdd, Nat.reduceLeDiff, hkPush_s, hkPush_n, true_and, and_true, implies_true, true_implies, not_true_eq_false, not_false_eq_true, false_implies, hkTf_0, hkTf_n1, hkOr01, hkOr11, Int.reduceEq, Int.reduceLT, Int.reduceLE, hk102a, hk102b, hk102c, Nat.reduceEqDiff, or_true, true_or, or_false, false_or, and_false, false_and, Classical.not_not, true_implies, List.set_cons_zero, List.set_cons_succ, ne_eq, hkLe_t ht, hg, hkJK_1]
    have hp : ∀ Q : Option hkV → Nat → hkG → Prop, Xp 64 (d + 1) 0 [(0, (n : Int)), (0, N), hkU, hkU, hkU] [] t g Q = Q (some (0, (n : Int) ^ N.toNat % 2521)) t g := by
      intro Q
      have := sx_power (t := t) (g := g) (d := d + 1) (Q := Q) (x := n) (n := N.toNat) (by omega) (by omega) (by omega)
      rw [← hNN] at this
      exact this
    simp only [hp, x_63_54, x_63_57, x_63_58, x_63_59, x_63_62, x_63_63, x_63_64, x_63_67, x_63_68, x_63_69, x_63_72, x_63_73, x_63_74, x_63_77, x_63_80, x_63_83, x_63_86, x_63_89, x_63_90, x_63_91, x_63_94, hkJK_1, hkJK_17, hkJK_19, hkJK_20, jA_17_1, jA_17_2, jA_17_3, jL_19, jL_20, jR_17_1, jR_17_2, jR_17_3, hkP1_0, hkP1_2, hkP1_u, hkC8, List.map_cons, List.map_nil, List.sum_cons, List.sum_nil, hkCat_0, hkCat_1, hkCat_2, Nat.reduceAdd, Nat.reduceLeDiff, hkPush_s, hkPush_n, true_and, and_true, implies_true, true_implies, not_true_eq_false, not_false_eq_true, false_implies, hkTf_0, hkTf_n1, hkOr01, hkOr11, Int.reduceEq, Int.reduceLT, Int.reduceLE, hk102a, hk102b, hk102c, Nat.reduceEqDiff, or_true, true_or, or_false, false_or, and_false, false_and, Classical.not_not, true_implies, List.set_cons_zero, List.set_cons_succ, ne_eq, hkLe_t ht]
    have FIN : ¬ ¬ N ≤ ((rtC R N n : Nat) : Int) ∨ 2521 ≤ n → Q none t (hkSet g 17 5 1) := by
      intro h
      have hN : N ≤ ((rtC R N n : Nat) : Int) := by rcases h with h | h <;> omega
      refine hQ _ (fun q q1 q2 q3 => hkSet_row q1) (by rw [hkSet_rd, if_pos ⟨rfl, rfl⟩]) (fun r e hr1 he => ?_)
      rw [hkSet_row (by decide), hkSet_row (by decide)]
      exact hr r e (by omega) he
    refine ⟨fun h => FIN (Or.inr (by omega)), fun _ => ⟨fun h => FIN (Or.inl (fun h2 => h2 h)), fun hlt => ⟨fun h => ?_, fun h => ?_⟩⟩⟩
    · rw [hw]
      have := ih (n + 1) g (by omega) (by omega) hg
      rw [a2 h] at this
      exact this hr hQ
    · have heq : (n : Int) ^ N.toNat % 2521 = rtW R := by omega
      obtain ⟨c1, c2⟩ := a1 heq
      refine sx_fillPowers (row := ((rtC R N n : Nat) : Int)) (x := (n : Int)) hkJK_19 jL_19 (by omega) (by omega) (by omega) (by omega) (fun g1 k1 k2 k3 => ?_)
      simp only [x_63_67, x_63_68, x_63_69, x_63_72, x_63_73, x_63_74, x_63_77, hkJK_1, hkJK_17, hkJK_19, hkJK_20, jA_17_1, jA_17_2, jA_17_3, jL_19, jL_20, jR_17_1, jR_17_2, jR_17_3, hkP1_0, hkP1_2, hkP1_u, hkC8, List.map_cons, List.map_nil, List.sum_cons, List.sum_nil, hkCat_0, hkCat_1, hkCat_2, Nat.reduceAdd, Nat.reduceLeDiff, hkPush_s, hkPush_n, true_and, and_true, implies_true, true_implies, not_true_eq_false, not_false_eq_true, false_implies, hkTf_0, hkTf_n1, hkOr01, hkOr11, Int.reduceEq, Int.reduceLT, Int.reduceLE, hk102a, hk102b, hk102c, Nat.reduceEqDiff, or_true, true_or, or_false, false_or, and_false, false_and, Classical.not_not, true_implies, List.set_cons_zero, List.set_cons_succ, ne_eq, hkLe_t ht, sx_inverse (show (0 : Int) ≤ n by omega) (show (n : Int) ≤ 1000000000 by omega)]
      refine sx_fillPowers (row := ((rtC R N n : Nat) : Int)) hkJK_20 jL_20 (by omega) (by omega) (Int.emod_nonneg _ (by decide)) (Int.emod_lt_of_pos _ (by decide)) (fun g2 l1 l2 l3 => ?_)
      simp only [x_63_80, x_63_83, x_63_86, hkJK_1, hkJK_17, hkJK_19, hkJK_20, jA_17_1, jA_17_2, jA_17_3, jL_19, jL_20, jR_17_1, jR_17_2, jR_17_3, hkP1_0, hkP1_2, hkP1_u, hkC8, List.map_cons, List.map_nil, List.sum_cons, List.sum_nil, hkCat_0, hkCat_1, hkCat_2, Nat.reduceAdd, Nat.reduceLeDiff, hkPush_s, hkPush_n, true_and, and_true, implies_true, true_implies, not_true_eq_false, not_false_eq_true, false_implies, hkTf_0, hkTf_n1, hkOr01, hkOr11, Int.reduceEq, Int.reduceLT, Int.reduceLE, hk102a, hk102b, hk102c, Nat.reduceEqDiff, or_true, true_or, or_false, false_or, and_false, false_and, Classical.not_not, true_implies, List.set_cons_zero, List.set_cons_succ, ne_eq, hw, hw2]
      have := ih (n + 1) g2 (by omega) (by omega) (by rw [l1 1 (by decide), k1 1 (by decide)]; exact hg)
      rw [c2] at this
      refine this (fun r e hr1 he => ?_) (fun g' m1 m2 m3 => hQ g' (fun q q1 q2 q3 => by rw [m1 q q1 q2 q3, l1 q q3, k1 q q2]) m2 m3)
      by_cases e0 : r = rtC R N n
      · rw [e0, c1, l1 19 (by decide)]
        exact ⟨k3 e he, l3 e he⟩
      · have := hr r e (by omega) he
        rw [l1 19 (by decide), k2 _ (by omega), l2 _ (by omega), k1 20 (by decide)]
        exact this
theorem sx_prepare {g : hkG} (ht : 46 ≤ t) (hb : bxOk R N) (h0 : g 1 0 = R) (h1 : g 1 1 = N) (hQ : ∀ g' : hkG, (∀ q : Int, q ≠ 17 → q ≠ 19 → q ≠ 20 → g' q = g q) → g' 17 5 = 1 → RDY g' R N → Q none t g') :
    Xp 63 (d + 2) 0 [(2, 17), hkU, hkU, hkU] [] t g Q := by
  obtain ⟨b1, b2, b3, b4⟩ := id hb
  obtain ⟨h2, h3, h4, h5⟩ := rt_end hb
  have L := l_prepare (d := d) ht hb 2520 1 g rfl (by omega) h1 (fun r e hr => absurd hr (by omega)) hQ
  rw [h2] at L
  have e : R.tmod 2 = R % 2 := Int.tmod_eq_emod_of_nonneg (by omega)
  simp only [x_63_0, x_63_1, x_63_4, x_63_7, x_63_8, x_63_9, x_63_12, x_63_15, x_63_18, x_63_19, x_63_20, x_63_21, x_63_22, x_63_23, hkJK_1, hkJK_17, hkJK_19, hkJK_20, jA_17_1, jA_17_2, jA_17_3, jL_19, jL_20, jR_17_1, jR_17_2, jR_17_3, hkP1_0, hkP1_2, hkP1_u, hkC8, List.map_cons, List.map_nil, List.sum_cons, List.sum_nil, hkCat_0, hkCat_1, hkCat_2, Nat.reduceAdd, Nat.reduceLeDiff, hkPush_s, hkPush_n, true_and, and_true, implies_true, true_implies, not_true_eq_false, not_false_eq_true, false_implies, hkTf_0, hkTf_n1, hkOr01, hkOr11, Int.reduceEq, Int.reduceLT, Int.reduceLE, hk102a, hk102b, hk102c, Nat.reduceEqDiff, or_true, true_or, or_false, false_or, and_false, false_and, Classical.not_not, true_implies, List.set_cons_zero, List.set_cons_succ, ne_eq, hkLe_t ht, h0, e]
  unfold rtW at L
  refine ⟨fun h => ?_, fun h => ?_⟩
  · rw [if_neg h] at L; exact L
  · rw [if_pos (by omega)] at L; exact L
/-- the roots that a set takes -/
def chK (s : Nat) (c : Int) : Int := ((chBn s c.toNat : Nat) : Int)
theorem l_choose (ht : 46 ≤ t) (hb : bxOk R N) {s : Nat} (hs : s < 2 ^ N.toNat) (hp : pbN s = R) : ∀ (m k : Nat) (g : hkG), k + m = N → g 1 1 = N → (∀ j : Nat, j < chFn s k → g 21 j = chBn s j) →
    (∀ g' : hkG, (∀ q : Int, q ≠ 21 → g' q = g q) → (∀ j : Nat, (j : Int) < R → g' 21 j = chBn s j) → Q none t g') →
    Xp 67 d 4 [(2, 17), (0, (s : Int)), (0, ((chFn s k : Nat) : Int)), (0, (k : Int))] [] t g Q := by
  obtain ⟨b1, b2, b3, b4⟩ := id hb
  obtain ⟨h1, h2, h3⟩ := cbEnds N.toNat (by omega) s hs
  have hs7 : s < 128 := Nat.lt_of_lt_of_le hs (Nat.pow_le_pow_right (by decide) (show N.toNat ≤ 7 by omega))
  have MO : ∀ k : Nat, k ≤ N → chFn s k ≤ R := by
    intro k hk
    have := cbMono s (a := k) (N.toNat - k)
    rw [show k + (N.toNat - k) = N.toNat from by omega] at this
    omega
  intro m
  induction m with
  | zero =>
    intro k g hk hg hj hQ
    rw [x_67_4]
    simp only [x_67_5, x_67_6, x_67_9, x_67_12, hkJK_1, hkJK_17, hkJK_21, jA_17_1, jA_17_4, jL_21, jR_17_1, jR_17_4, hkP1_0, hkP1_2, hkP1_u, hkC8, List.map_cons, List.map_nil, List.sum_cons, List.sum_nil, hkCat_0, hkCat_1, hkCat_2, Nat.reduceAdd, Nat.reduceLeDiff, hkPush_s, hkPush_n, true_and, and_true, implies_true, true_implies, not_true_eq_false, not_false_eq_true, false_implies, hkTf_0, hkTf_n1, hkOr01, hkOr11, Int.reduceEq, Int.reduceLT, Int.reduceLE, hk102a, hk102b, hk102c, Nat.reduceEqDiff, or_true, true_or, or_false, false_or, and_false, false_and, Classical.not_not, true_implies, List.set_cons_zero, List.set_cons_succ, ne_eq, x_67_44, hkJK_1, hkJK_17, hkJK_21, jA_17_1, jA_17_4, jL_21, jR_17_1, jR_17_4, hkP1_0, hkP1_2, hkP1_u, hkC8, List.map_cons, List.map_nil, List.sum_cons, List.sum_nil, hkCat_0, hkCat_1, hkCat_2, Nat.reduceAdd, Nat.reduceLeDiff, hkPush_s, hkPush_n, true_and, and_true, implies_true, true_implies, not_true_eq_false, not_false_eq_true, false_implies, hkTf_0, hkTf_n1, hkOr01, hkOr11, Int.reduceEq, Int.reduceLT, Int.reduceLE, hk102a, hk102b, hk102c, Nat.reduceEqDiff, or_true, true_or, or_false, false_or, and_false, false_and, Classical.not_not, true_implies, List.set_cons_zero, List.set_cons_succ, ne_eq, hkLe_t ht, hg]
    exact ⟨fun _ => hQ g (fun _ _ => rfl) (fun j hj1 => hj j (by rw [show k = N.toNat from by omega]; omega)), fun h => absurd (by omega) h⟩
  | succ m ih =>
    intro k g hk hg hj hQ
    have hM := MO k (by omega)
    have hC := cbAll s hs7 k (by omega)
    have hw : hkW ((k : Int) + 1) = ((k + 1 : Nat) : Int) := by rw [hkW_in (by omega) (by omega)]; omega
    have hw2 : hkW (((chFn s k : Nat) : Int) + 1) = ((chFn s k + 1 : Nat) : Int) := by rw [hkW_in (by omega) (by omega)]; omega
    rw [x_67_4]
    simp only [x_67_5, x_67_6, x_67_9, x_67_12, x_67_15, x_67_16, x_67_17, x_67_20, x_67_21, x_67_22, x_67_23, x_67_24, x_67_25, x_67_28, x_67_29, x_67_32, x_67_33, x_67_34, x_67_35, x_67_38, x_67_41, x_67_44, hkJK_1, hkJK_17, hkJK_21, jA_17_1, jA_17_4, jL_21, jR_17_1, jR_17_4, hkP1_0, hkP1_2, hkP1_u, hkC8, List.map_cons, List.map_nil, List.sum_cons, List.sum_nil, hkCat_0, hkCat_1, hkCat_2, Nat.reduceAdd, Nat.reduceLeDiff, hkPush_s, hkPush_n, true_and, and_true, implies_true, true_implies, not_true_eq_false, not_false_eq_true, false_implies, hkTf_0, hkTf_n1, hkOr01, hkOr11, Int.reduceEq, Int.reduceLT, Int.reduceLE, hk102a, hk102b, hk102c, Nat.reduceEqDiff, or_true, true_or, or_false, false_or, and_false, false_and, Classical.not_not, true_implies, List.set_cons_zero, List.set_cons_succ, ne_eq, hkLe_t ht, hg, hw, hw2]
    clear hw hw2
    have FIN : R ≤ ((chFn s k : Nat) : Int) → Q none t g := fun h => hQ g (fun _ _ => rfl) (fun j hj1 => hj j (by omega))
    refine ⟨fun h => by omega, fun _ => ⟨fun h => FIN (by omega), fun h4 => ⟨fun h => ?_, fun h => ⟨by omega, ?_⟩⟩⟩⟩
    · rcases hC with ⟨c1, c2⟩ | ⟨c1, c2, c3⟩
      · rw [← c2]
        exact ih (k + 1) g (by omega) hg (by rw [c2]; exact hj) hQ
      · omega
    · rcases hC with ⟨c1, c2⟩ | ⟨c1, c2, c3⟩
      · exact absurd c1 h
      · rw [← c2]
        refine ih (k + 1) _ (by omega) (by rw [hkSet_row (by decide)]; exact hg) (fun j hj1 => ?_) (fun g' k1 k2 => hQ g' (fun q hq => by rw [k1 q hq, hkSet_row hq]) k2)
        rw [hkSet_rd]
        by_cases e : j = chFn s k
        · rw [e, c3, if_pos ⟨rfl, rfl⟩]
        · rw [if_neg (by omega)]
          exact hj j (by omega)
theorem sx_choose (ht : 46 ≤ t) (hb : bxOk R N) {s : Nat} {g : hkG} (hs : s < 2 ^ N.toNat) (hp : pbN s = R) (hg : g 1 1 = N)
    (hQ : ∀ g' : hkG, (∀ q : Int, q ≠ 21 → g' q = g q) → (∀ j : Nat, (j : Int) < R → g' 21 j = chBn s j) → Q none t g') :
    Xp 67 d 0 [(2, 17), (0, (s : Int)), hkU, hkU] [] t g Q := by
  have := l_choose (d := d) (Q := Q) ht hb hs hp N.toNat 0 g (by have := hb.1; have := hb.2.2.1; omega) hg (fun j hj => absurd hj (by simp [chFn])) hQ
  simp only [x_67_0, x_67_1, x_67_2, x_67_3, hkJK_1, hkJK_17, hkJK_21, jA_17_1, jA_17_4, jL_21, jR_17_1, jR_17_4, hkP1_0, hkP1_2, hkP1_u, hkC8, List.map_cons, List.map_nil, List.sum_cons, List.sum_nil, hkCat_0, hkCat_1, hkCat_2, Nat.reduceAdd, Nat.reduceLeDiff, hkPush_s, hkPush_n, true_and, and_true, implies_true, true_implies, not_true_eq_false, not_false_eq_true, false_implies, hkTf_0, hkTf_n1, hkOr01, hkOr11, Int.reduceEq, Int.reduceLT, Int.reduceLE, hk102a, hk102b, hk102c, Nat.reduceEqDiff, or_true, true_or, or_false, false_or, and_false, false_and, Classical.not_not, true_implies, List.set_cons_zero, List.set_cons_succ, ne_eq]
  exact this
end SP
