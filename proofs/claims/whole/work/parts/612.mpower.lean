/-! the reference: powers and roots modulo 2521 -/
theorem tm2521 {v : Int} : (v.tmod 2521 + 2521).tmod 2521 = v % 2521 := by
  by_cases h : 0 ≤ v
  · rw [Int.tmod_eq_emod_of_nonneg h, Int.tmod_eq_emod_of_nonneg (by omega)]; omega
  · have e : v.tmod 2521 = -((-v) % 2521) := by
      rw [← Int.tmod_eq_emod_of_nonneg (by omega), Int.neg_tmod, Int.neg_neg]
    rw [e, Int.tmod_eq_emod_of_nonneg (by omega)]; omega
theorem tm_rng {v : Int} : -2521 < v.tmod 2521 ∧ v.tmod 2521 < 2521 := by
  by_cases h : 0 ≤ v
  · rw [Int.tmod_eq_emod_of_nonneg h]; omega
  · have e : v.tmod 2521 = -((-v) % 2521) := by
      rw [← Int.tmod_eq_emod_of_nonneg (by omega), Int.neg_tmod, Int.neg_neg]
    omega
section SP
variable {t d : Nat} {g : hkG} {Q : Option hkV → Nat → hkG → Prop} {R N : Int}
theorem l_mpower {x : Int} (hx0 : 0 ≤ x) (hx : x < 2521) {n : Nat} (hn : n < 4096) : ∀ (m k : Nat), k + m = n → Q (some (0, x ^ n % 2521)) t g → Xp 134 d 4 [(0, x), (0, (n : Int)), (0, x ^ k % 2521), (0, (k : Int))] [] t g Q := by
  intro m
  induction m with
  | zero =>
    intro k hk hQ
    have e : k = n := by omega
    subst e
    rw [x_134_4]
    simp only [x_134_5, x_134_6, hkP1_0, hkP1_2, hkP1_u, hkC8, List.map_cons, List.map_nil, List.sum_cons, List.sum_nil, hkCat_0, hkCat_1, hkCat_2, Nat.reduceAdd, Nat.reduceLeDiff, hkPush_s, hkPush_n, true_and, and_true, implies_true, true_implies, not_true_eq_false, not_false_eq_true, false_implies, hkTf_0, hkTf_n1, hkOr01, hkOr11, Int.reduceEq, Int.reduceLT, Int.reduceLE, hk102a, hk102b, hk102c, Nat.reduceEqDiff, or_true, true_or, or_false, false_or, and_false, false_and, Classical.not_not, true_implies, List.set_cons_zero, List.set_cons_succ, ne_eq, x_134_23, x_134_24, hkP1_0, hkP1_2, hkP1_u, hkC8, List.map_cons, List.map_nil, List.sum_cons, List.sum_nil, hkCat_0, hkCat_1, hkCat_2, Nat.reduceAdd, Nat.reduceLeDiff, hkPush_s, hkPush_n, true_and, and_true, implies_true, true_implies, not_true_eq_false, not_false_eq_true, false_implies, hkTf_0, hkTf_n1, hkOr01, hkOr11, Int.reduceEq, Int.reduceLT, Int.reduceLE, hk102a, hk102b, hk102c, Nat.reduceEqDiff, or_true, true_or, or_false, false_or, and_false, false_and, Classical.not_not, true_implies, List.set_cons_zero, List.set_cons_succ, ne_eq]
    exact ⟨fun _ => hQ, fun h => absurd (by omega) h⟩
  | succ m ih =>
    intro k hk hQ
    have q0 : 0 ≤ x ^ k % 2521 := Int.emod_nonneg _ (by decide)
    have q1 : x ^ k % 2521 < 2521 := Int.emod_lt_of_pos _ (by decide)
    obtain ⟨a1, a2⟩ := mul_lt2521 q0 q1 hx0 hx
    obtain ⟨e3, e4⟩ : hkW (x ^ k % 2521 * x) = x ^ k % 2521 * x ∧ hkW ((k : Int) + 1) = ((k + 1 : Nat) : Int) := ⟨hkW_in (by omega) (by omega), by rw [hkW_in (by omega) (by omega)]; omega⟩
    have em : (x ^ k % 2521 * x).tmod 2521 = x ^ (k + 1) % 2521 := by
      rw [Int.tmod_eq_emod_of_nonneg a1, Int.pow_succ, Int.mul_emod, Int.emod_emod, ← Int.mul_emod]
    rw [x_134_4]
    simp only [x_134_5, x_134_6, x_134_9, x_134_10, x_134_11, x_134_12, x_134_15, x_134_16, x_134_17, x_134_20, x_134_23, x_134_24, hkP1_0, hkP1_2, hkP1_u, hkC8, List.map_cons, List.map_nil, List.sum_cons, List.sum_nil, hkCat_0, hkCat_1, hkCat_2, Nat.reduceAdd, Nat.reduceLeDiff, hkPush_s, hkPush_n, true_and, and_true, implies_true, true_implies, not_true_eq_false, not_false_eq_true, false_implies, hkTf_0, hkTf_n1, hkOr01, hkOr11, Int.reduceEq, Int.reduceLT, Int.reduceLE, hk102a, hk102b, hk102c, Nat.reduceEqDiff, or_true, true_or, or_false, false_or, and_false, false_and, Classical.not_not, true_implies, List.set_cons_zero, List.set_cons_succ, ne_eq, e3, e4, em]
    clear e3 e4
    exact ⟨fun h => absurd h (by omega), fun _ => ih (k + 1) (by omega) hQ⟩
theorem sx_mpower {x : Int} {n : Nat} (hx0 : 0 ≤ x) (hx : x < 2521) (hn : n < 4096) : Xp 134 d 0 [(0, x), (0, (n : Int)), hkU, hkU] [] t g Q = Q (some (0, x ^ n % 2521)) t g := by
  refine Xp_ev (d := 0) (Ev_of ?_) (Nat.zero_le _)
  simp only [x_134_0, x_134_1, x_134_2, x_134_3, hkP1_0, hkP1_2, hkP1_u, hkC8, List.map_cons, List.map_nil, List.sum_cons, List.sum_nil, hkCat_0, hkCat_1, hkCat_2, Nat.reduceAdd, Nat.reduceLeDiff, hkPush_s, hkPush_n, true_and, and_true, implies_true, true_implies, not_true_eq_false, not_false_eq_true, false_implies, hkTf_0, hkTf_n1, hkOr01, hkOr11, Int.reduceEq, Int.reduceLT, Int.reduceLE, hk102a, hk102b, hk102c, Nat.reduceEqDiff, or_true, true_or, or_false, false_or, and_false, false_and, Classical.not_not, true_implies, List.set_cons_zero, List.set_cons_succ, ne_eq]
  have := l_mpower (t := t) (g := g) (d := 0) (Q := fun r t' g' => r = some (0, x ^ n % 2521) ∧ t' = t ∧ g' = g) hx0 hx hn n 0 (by omega) ⟨rfl, rfl, rfl⟩
  rw [Int.pow_zero] at this
  exact this
theorem sx_minverse {x : Int} (hx0 : 0 ≤ x) (hx : x < 2521) : Xp 136 (d + 1) 0 [(0, x)] [] t g Q = Q (some (0, x ^ 2519 % 2521)) t g := by
  simp only [x_136_0, x_136_1, x_136_4, x_136_7, hkP1_0, hkP1_2, hkP1_u, hkC8, List.map_cons, List.map_nil, List.sum_cons, List.sum_nil, hkCat_0, hkCat_1, hkCat_2, Nat.reduceAdd, Nat.reduceLeDiff, hkPush_s, hkPush_n, true_and, and_true, implies_true, true_implies, not_true_eq_false, not_false_eq_true, false_implies, hkTf_0, hkTf_n1, hkOr01, hkOr11, Int.reduceEq, Int.reduceLT, Int.reduceLE, hk102a, hk102b, hk102c, Nat.reduceEqDiff, or_true, true_or, or_false, false_or, and_false, false_and, Classical.not_not, true_implies, List.set_cons_zero, List.set_cons_succ, ne_eq]
  rw [show ((2519 : Int)) = ((2519 : Nat) : Int) from rfl, sx_mpower hx0 hx (by decide)]
  simp only [x_136_7, hkP1_0, hkP1_2, hkP1_u, hkC8, List.map_cons, List.map_nil, List.sum_cons, List.sum_nil, hkCat_0, hkCat_1, hkCat_2, Nat.reduceAdd, Nat.reduceLeDiff, hkPush_s, hkPush_n, true_and, and_true, implies_true, true_implies, not_true_eq_false, not_false_eq_true, false_implies, hkTf_0, hkTf_n1, hkOr01, hkOr11, Int.reduceEq, Int.reduceLT, Int.reduceLE, hk102a, hk102b, hk102c, Nat.reduceEqDiff, or_true, true_or, or_false, false_or, and_false, false_and, Classical.not_not, true_implies, List.set_cons_zero, List.set_cons_succ, ne_eq]
theorem sx_mmod {v : Int} (h0 : -1000000000000 ≤ v) (h1 : v ≤ 1000000000000) : Xp 137 d 0 [(1, v), hkU] [] t g Q = Q (some (0, v % 2521)) t g := by
  refine Xp_ev (d := 0) (Ev_of ?_) (Nat.zero_le _)
  have hr := tm_rng (v := v)
  have e1 : hkL (v.tmod 2521 + 2521) = v.tmod 2521 + 2521 := hkL_in (by omega) (by omega)
  have e2 : hkW (v % 2521) = v % 2521 := hkW_in (by omega) (by omega)
  simp only [x_137_0, x_137_1, x_137_4, x_137_5, x_137_8, x_137_9, x_137_12, x_137_13, x_137_14, hkP1_0, hkP1_2, hkP1_u, hkC8, List.map_cons, List.map_nil, List.sum_cons, List.sum_nil, hkCat_0, hkCat_1, hkCat_2, Nat.reduceAdd, Nat.reduceLeDiff, hkPush_s, hkPush_n, true_and, and_true, implies_true, true_implies, not_true_eq_false, not_false_eq_true, false_implies, hkTf_0, hkTf_n1, hkOr01, hkOr11, Int.reduceEq, Int.reduceLT, Int.reduceLE, hk102a, hk102b, hk102c, Nat.reduceEqDiff, or_true, true_or, or_false, false_or, and_false, false_and, Classical.not_not, true_implies, List.set_cons_zero, List.set_cons_succ, ne_eq, e1, tm2521, e2]
theorem l_mroots (ht : 190 ≤ t) (hb : bxOk R N) : ∀ (f n : Nat) (g : hkG), n + f = 2521 → 1 ≤ n → g 66 0 = R → g 66 1 = N →
    (∀ r : Nat, r < rtC R N n → g 80 r = rtX R N r) →
    (∀ g' : hkG, (∀ q : Int, q ≠ 80 → g' q = g q) → (∀ r : Nat, (r : Int) < N → g' 80 r = rtX R N r) → Q none t g') →
    Xp 133 (d + 1) 4 [(2, 66), (0, ((rtC R N n : Nat) : Int)), (0, (n : Int))] [] t g Q := by
  obtain ⟨b1, b2, b3, b4⟩ := id hb
  obtain ⟨h1, h2, h3, h4⟩ := rt_end hb
  have hNN : N = ((N.toNat : Nat) : Int) := by omega
  intro f
  induction f with
  | zero =>
    intro n g hn hn1 hg0 hg hr hQ
    have e : n = 2521 := by omega
    subst e
    rw [x_133_4]
    simp only [x_133_5, x_133_8, x_133_11, x_133_12, x_133_13, x_133_16, hkJK_66, hkJK_80, jA_66_23, jL_80, jR_66_23, hkP1_0, hkP1_2, hkP1_u, hkC8, List.map_cons, List.map_nil, List.sum_cons, List.sum_nil, hkCat_0, hkCat_1, hkCat_2, Nat.reduceAdd, Nat.reduceLeDiff, hkPush_s, hkPush_n, true_and, and_true, implies_true, true_implies, not_true_eq_false, not_false_eq_true, false_implies, hkTf_0, hkTf_n1, hkOr01, hkOr11, Int.reduceEq, Int.reduceLT, Int.reduceLE, hk102a, hk102b, hk102c, Nat.reduceEqDiff, or_true, true_or, or_false, false_or, and_false, false_and, Classical.not_not, true_implies, List.set_cons_zero, List.set_cons_succ, ne_eq, x_133_63, hkJK_66, hkJK_80, jA_66_23, jL_80, jR_66_23, hkP1_0, hkP1_2, hkP1_u, hkC8, List.map_cons, List.map_nil, List.sum_cons, List.sum_nil, hkCat_0, hkCat_1, hkCat_2, Nat.reduceAdd, Nat.reduceLeDiff, hkPush_s, hkPush_n, true_and, and_true, implies_true, true_implies, not_true_eq_false, not_false_eq_true, false_implies, hkTf_0, hkTf_n1, hkOr01, hkOr11, Int.reduceEq, Int.reduceLT, Int.reduceLE, hk102a, hk102b, hk102c, Nat.reduceEqDiff, or_true, true_or, or_false, false_or, and_false, false_and, Classical.not_not, true_implies, List.set_cons_zero, List.set_cons_succ, ne_eq, hkLe_t ht, hg]
    exact ⟨fun _ => hQ g (fun _ _ => rfl) (fun r hr1 => hr r (by omega)), fun h => absurd (by decide) h⟩
  | succ f ih =>
    intro n g hn hn1 hg0 hg hr hQ
    obtain ⟨a1, a2⟩ := rt_at hb (x := n) hn1 (by omega)
    rw [x_133_4]
    simp only [x_133_5, x_133_8, x_133_11, x_133_12, x_133_13, x_133_16, x_133_19, x_133_20, x_133_21, x_133_24, hkJK_66, hkJK_80, jA_66_23, jL_80, jR_66_23, hkP1_0, hkP1_2, hkP1_u, hkC8, List.map_cons, List.map_nil, List.sum_cons, List.sum_nil, hkCat_0, hkCat_1, hkCat_2, Nat.reduceAdd, Nat.reduceLeDiff, hkPush_s, hkPush_n, true_and, and_true, implies_true, true_implies, not_true_eq_false, not_false_eq_true, false_implies, hkTf_0, hkTf_n1, hkOr01, hkOr11, Int.reduceEq, Int.reduceLT, Int.reduceLE, hk102a, hk102b, hk102c, Nat.reduceEqDiff, or_true, true_or, or_false, false_or, and_false, false_and, Classical.not_not, true_implies, List.set_cons_zero, List.set_cons_succ, ne_eq, x_133_63, hkJK_66, hkJK_80, jA_66_23, jL_80, jR_66_23, hkP1_0, hkP1_2, hkP1_u, hkC8, List.map_cons, List.map_nil, List.sum_cons, List.sum_nil, hkCat_0, hkCat_1, hkCat_2, Nat.reduceAdd, Nat.reduceLeDiff, hkPush_s, hkPush_n, true_and, and_true, implies_true, true_implies, not_true_eq_false, not_false_eq_true, false_implies, hkTf_0, hkTf_n1, hkOr01, hkOr11, Int.reduceEq, Int.reduceLT, Int.reduceLE, hk102a, hk102b, hk102c, Nat.reduceEqDiff, or_true, true_or, or_false, false_or, and_false, false_and, Classical.not_not, true_implies, List.set_cons_zero, List.set_cons_succ, ne_eq, hkLe_t ht, hg]
    have hp : ∀ Q : Option hkV → Nat → hkG → Prop, Xp 134 d 0 [(0, (n : Int)), (0, N), hkU, hkU] [] t g Q = Q (some (0, (n : Int) ^ N.toNat % 2521)) t g := by
      intro Q
      have := sx_mpower (t := t) (g := g) (d := d) (Q := Q) (x := n) (n := N.toNat) (by omega) (by omega) (by omega)
      rw [← hNN] at this
      exact this
    have e : R.tmod 2 = R % 2 := Int.tmod_eq_emod_of_nonneg (by omega)
    have h3n := h3 n
    obtain ⟨hw, hw2⟩ : hkW ((n : Int) + 1) = ((n + 1 : Nat) : Int) ∧ hkW (((rtC R N n : Nat) : Int) + 1) = ((rtC R N n + 1 : Nat) : Int) := ⟨by rw [hkW_in (by omega) (by omega)]; omega, by rw [hkW_in (by omega) (by omega)]; omega⟩
    simp only [hp, hg0, e, x_133_27, x_133_28, x_133_31, x_133_32, x_133_33, x_133_34, x_133_37, x_133_38, x_133_41, x_133_44, x_133_47, x_133_48, x_133_51, x_133_52, x_133_53, x_133_54, x_133_57, x_133_60, x_133_63, hkJK_66, hkJK_80, jA_66_23, jL_80, jR_66_23, hkP1_0, hkP1_2, hkP1_u, hkC8, List.map_cons, List.map_nil, List.sum_cons, List.sum_nil, hkCat_0, hkCat_1, hkCat_2, Nat.reduceAdd, Nat.reduceLeDiff, hkPush_s, hkPush_n, true_and, and_true, implies_true, true_implies, not_true_eq_false, not_false_eq_true, false_implies, hkTf_0, hkTf_n1, hkOr01, hkOr11, Int.reduceEq, Int.reduceLT, Int.reduceLE, hk102a, hk102b, hk102c, Nat.reduceEqDiff, or_true, true_or, or_false, false_or, and_false, false_and, Classical.not_not, true_implies, List.set_cons_zero, List.set_cons_succ, ne_eq, hkLe_t ht, hw, hw2]
    clear hw hw2
    have FIN : ¬ ¬ N ≤ ((rtC R N n : Nat) : Int) ∨ 2521 ≤ n → Q none t g := by
      intro h
      have hN : N ≤ ((rtC R N n : Nat) : Int) := by rcases h with h | h <;> omega
      exact hQ g (fun _ _ => rfl) (fun r hr1 => hr r (by omega))
    have NO : ¬ ((n : Int) ^ N.toNat % 2521 = rtW R) → Xp 133 (d + 1) 4 [(2, 66), (0, ((rtC R N n : Nat) : Int)), (0, ((n + 1 : Nat) : Int))] [] t g Q := by
      intro h
      have := ih (n + 1) g (by omega) (by omega) hg0 hg
      rw [a2 h] at this
      exact this hr hQ
    have YES : ((n : Int) ^ N.toNat % 2521 = rtW R) → ((rtC R N n : Nat) : Int) < N → Xp 133 (d + 1) 4 [(2, 66), (0, ((rtC R N n + 1 : Nat) : Int)), (0, ((n + 1 : Nat) : Int))] [] t (hkSet g 80 ((rtC R N n : Nat) : Int) n) Q := by
      intro h hlt
      obtain ⟨c1, c2⟩ := a1 h
      have := ih (n + 1) (hkSet g 80 ((rtC R N n : Nat) : Int) n) (by omega) (by omega) (by rw [hkSet_row (by decide)]; exact hg0) (by rw [hkSet_row (by decide)]; exact hg)
      rw [c2] at this
      refine this (fun r hr1 => ?_) (fun g' k1 k2 => hQ g' (fun q hq => by rw [k1 q hq, hkSet_row hq]) k2)
      rw [hkSet_rd]
      by_cases e0 : r = rtC R N n
      · rw [e0, if_pos ⟨rfl, rfl⟩, c1]
      · rw [if_neg (by omega)]; exact hr r (by omega)
    have hW : rtW R = if R % 2 = 1 then 1 else 2520 := by
      unfold rtW; split <;> split <;> omega
    refine ⟨fun h => FIN (Or.inr (by omega)), fun _ => ⟨fun h => FIN (Or.inl (fun h2 => h2 h)), fun hlt => ?_⟩⟩
    refine ⟨fun hR => ⟨fun h => NO (by rw [hW, if_neg hR]; exact h), fun h => ⟨⟨by omega, by omega⟩, YES (by rw [hW, if_neg hR]; exact h) (by omega)⟩⟩, fun hR => ⟨fun h => NO (by rw [hW, if_pos hR]; exact h), fun h => ⟨⟨by omega, by omega⟩, YES (by rw [hW, if_pos hR]; exact h) (by omega)⟩⟩⟩
theorem sx_mrootsNow {g : hkG} (ht : 190 ≤ t) (hb : bxOk R N) (h0 : g 66 0 = R) (h1 : g 66 1 = N) (hQ : ∀ g' : hkG, (∀ q : Int, q ≠ 80 → g' q = g q) → (∀ r : Nat, (r : Int) < N → g' 80 r = rtX R N r) → Q none t g') :
    Xp 133 (d + 1) 0 [(2, 66), hkU, hkU] [] t g Q := by
  have L := l_mroots (d := d) ht hb 2520 1 g rfl (by omega) h0 h1 (fun r hr => absurd hr (by have := (rt_end hb).1; omega)) hQ
  rw [(rt_end hb).1] at L
  simp only [x_133_0, x_133_1, x_133_2, x_133_3, hkJK_66, hkJK_80, jA_66_23, jL_80, jR_66_23, hkP1_0, hkP1_2, hkP1_u, hkC8, List.map_cons, List.map_nil, List.sum_cons, List.sum_nil, hkCat_0, hkCat_1, hkCat_2, Nat.reduceAdd, Nat.reduceLeDiff, hkPush_s, hkPush_n, true_and, and_true, implies_true, true_implies, not_true_eq_false, not_false_eq_true, false_implies, hkTf_0, hkTf_n1, hkOr01, hkOr11, Int.reduceEq, Int.reduceLT, Int.reduceLE, hk102a, hk102b, hk102c, Nat.reduceEqDiff, or_true, true_or, or_false, false_or, and_false, false_and, Classical.not_not, true_implies, List.set_cons_zero, List.set_cons_succ, ne_eq]
  exact L
end SP
