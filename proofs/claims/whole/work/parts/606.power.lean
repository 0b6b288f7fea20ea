/-! Roots: powers mod 2521 -/
theorem pw_pm {b m : Int} : ∀ k : Nat, (b % m) ^ k % m = b ^ k % m := by
  intro k
  induction k with
  | zero => rw [Int.pow_zero, Int.pow_zero]
  | succ k ih => rw [Int.pow_succ, Int.pow_succ, Int.mul_emod, ih, Int.emod_emod, ← Int.mul_emod]
theorem pw_even {r b m : Int} {k : Nat} : (r * (b * b % m) ^ k) % m = (r * b ^ (2 * k)) % m := by
  rw [Int.mul_emod, pw_pm, ← Int.mul_emod, Int.pow_mul, Int.pow_succ, Int.pow_succ, Int.pow_zero, Int.one_mul]
theorem pw_odd {r b m : Int} {k : Nat} : ((r * b % m) * (b * b % m) ^ k) % m = (r * b ^ (2 * k + 1)) % m := by
  rw [pw_even, Int.mul_emod, Int.emod_emod, ← Int.mul_emod, Int.pow_succ, Int.mul_assoc, Int.mul_comm b]
theorem halfChk2 : ∀ a : Nat, a < 64 → ∀ b : Nat, b < 64 → hkAnd ((64 * a + b : Nat) : Int) 1 = (((64 * a + b) % 2 : Nat) : Int) ∧ hkShr ((64 * a + b : Nat) : Int) 1 = (((64 * a + b) / 2 : Nat) : Int) := by decide +kernel
theorem halfChk (e : Nat) (h : e < 4096) : hkAnd (e : Int) 1 = ((e % 2 : Nat) : Int) ∧ hkShr (e : Int) 1 = ((e / 2 : Nat) : Int) := by
  have := halfChk2 (e / 64) (by omega) (e % 64) (by omega)
  rw [Nat.div_add_mod] at this
  exact this
theorem mul_lt2521 {a b : Int} (ha0 : 0 ≤ a) (ha : a < 2521) (hb0 : 0 ≤ b) (hb : b < 2521) : 0 ≤ a * b ∧ a * b ≤ 6355441 := by
  have h1 : a * b ≤ a * 2521 := Int.mul_le_mul_of_nonneg_left (by omega) ha0
  exact ⟨Int.mul_nonneg ha0 hb0, by omega⟩
section SP
variable {t d : Nat} {g : hkG} {Q : Option hkV → Nat → hkG → Prop}
theorem l_power {x n : Int} : ∀ (f e : Nat) (r b : Int), e < 2 ^ f → e < 4096 → 0 ≤ r → r < 2521 → 0 ≤ b → b < 2521 → Q (some (0, (r * b ^ e) % 2521)) t g → Xp 64 d 11 [(0, x), (0, n), (0, r), (0, b), (0, (e : Int))] [] t g Q := by
  intro f
  induction f with
  | zero =>
    intro e r b he he2 hr0 hr hb0 hb hQ
    have h0 : e = 0 := by simpa using he
    subst h0
    rw [Int.pow_zero, Int.mul_one, Int.emod_eq_of_lt hr0 hr] at hQ
    rw [x_64_11]
    simp only [x_64_13, hkP1_0, hkP1_2, hkP1_u, hkC8, List.map_cons, List.map_nil, List.sum_cons, List.sum_nil, hkCat_0, hkCat_1, hkCat_2, Nat.reduceAdd, Nat.reduceLeDiff, hkPush_s, hkPush_n, true_and, and_true, implies_true, true_implies, not_true_eq_false, not_false_eq_true, false_implies, hkTf_0, hkTf_n1, hkOr01, hkOr11, Int.reduceEq, Int.reduceLT, Int.reduceLE, hk102a, hk102b, hk102c, Nat.reduceEqDiff, or_true, true_or, or_false, false_or, and_false, false_and, Classical.not_not, true_implies, List.set_cons_zero, List.set_cons_succ, ne_eq, x_64_48, x_64_49, hkP1_0, hkP1_2, hkP1_u, hkC8, List.map_cons, List.map_nil, List.sum_cons, List.sum_nil, hkCat_0, hkCat_1, hkCat_2, Nat.reduceAdd, Nat.reduceLeDiff, hkPush_s, hkPush_n, true_and, and_true, implies_true, true_implies, not_true_eq_false, not_false_eq_true, false_implies, hkTf_0, hkTf_n1, hkOr01, hkOr11, Int.reduceEq, Int.reduceLT, Int.reduceLE, hk102a, hk102b, hk102c, Nat.reduceEqDiff, or_true, true_or, or_false, false_or, and_false, false_and, Classical.not_not, true_implies, List.set_cons_zero, List.set_cons_succ, ne_eq]
    exact ⟨fun _ => hQ, fun h => absurd (by omega) h⟩
  | succ f ih =>
    intro e r b he he2 hr0 hr hb0 hb hQ
    obtain ⟨a1, a2⟩ := mul_lt2521 hr0 hr hb0 hb
    obtain ⟨a3, a4⟩ := mul_lt2521 hb0 hb hb0 hb
    obtain ⟨e1, e2⟩ : hkW (r * b) = r * b ∧ hkW (b * b) = b * b := ⟨hkW_in (by omega) (by omega), hkW_in (by omega) (by omega)⟩
    obtain ⟨c1, c2⟩ := halfChk e he2
    rw [x_64_11]
    simp only [x_64_13, x_64_16, x_64_18, x_64_19, x_64_20, x_64_23, x_64_24, x_64_25, x_64_26, x_64_29, x_64_30, x_64_31, x_64_32, x_64_33, x_64_34, x_64_37, x_64_38, x_64_39, x_64_41, x_64_42, x_64_43, x_64_45, x_64_48, x_64_49, hkP1_0, hkP1_2, hkP1_u, hkC8, List.map_cons, List.map_nil, List.sum_cons, List.sum_nil, hkCat_0, hkCat_1, hkCat_2, Nat.reduceAdd, Nat.reduceLeDiff, hkPush_s, hkPush_n, true_and, and_true, implies_true, true_implies, not_true_eq_false, not_false_eq_true, false_implies, hkTf_0, hkTf_n1, hkOr01, hkOr11, Int.reduceEq, Int.reduceLT, Int.reduceLE, hk102a, hk102b, hk102c, Nat.reduceEqDiff, or_true, true_or, or_false, false_or, and_false, false_and, Classical.not_not, true_implies, List.set_cons_zero, List.set_cons_succ, ne_eq, e1, e2, c1, c2, Int.tmod_eq_emod_of_nonneg a1, Int.tmod_eq_emod_of_nonneg a3]
    clear e1 e2
    have p1 : 0 ≤ r * b % 2521 ∧ r * b % 2521 < 2521 := ⟨Int.emod_nonneg _ (by decide), Int.emod_lt_of_pos _ (by decide)⟩
    have p2 : 0 ≤ b * b % 2521 ∧ b * b % 2521 < 2521 := ⟨Int.emod_nonneg _ (by decide), Int.emod_lt_of_pos _ (by decide)⟩
    have he3 : e / 2 < 2 ^ f := by rw [Nat.pow_succ] at he; omega
    refine ⟨fun h => ?_, fun _ => ⟨fun h => ?_, fun h => ?_⟩⟩
    · have h0 : e = 0 := by omega
      subst h0
      rw [Int.pow_zero, Int.mul_one, Int.emod_eq_of_lt hr0 hr] at hQ
      exact hQ
    · refine ih (e / 2) r (b * b % 2521) he3 (by omega) hr0 hr p2.1 p2.2 ?_
      rw [pw_even, show 2 * (e / 2) = e from by omega]
      exact hQ
    · refine ih (e / 2) (r * b % 2521) (b * b % 2521) he3 (by omega) p1.1 p1.2 p2.1 p2.2 ?_
      rw [pw_odd, show 2 * (e / 2) + 1 = e from by omega]
      exact hQ
theorem sx_power {x : Int} {n : Nat} (h0 : 0 ≤ x) (hx : x ≤ 1000000000) (hn : n < 4096) : Xp 64 d 0 [(0, x), (0, (n : Int)), hkU, hkU, hkU] [] t g Q = Q (some (0, x ^ n % 2521)) t g := by
  refine Xp_ev (d := 0) (Ev_of ?_) (Nat.zero_le _)
  simp only [x_64_0, x_64_1, x_64_2, x_64_3, x_64_6, x_64_7, x_64_8, x_64_9, hkP1_0, hkP1_2, hkP1_u, hkC8, List.map_cons, List.map_nil, List.sum_cons, List.sum_nil, hkCat_0, hkCat_1, hkCat_2, Nat.reduceAdd, Nat.reduceLeDiff, hkPush_s, hkPush_n, true_and, and_true, implies_true, true_implies, not_true_eq_false, not_false_eq_true, false_implies, hkTf_0, hkTf_n1, hkOr01, hkOr11, Int.reduceEq, Int.reduceLT, Int.reduceLE, hk102a, hk102b, hk102c, Nat.reduceEqDiff, or_true, true_or, or_false, false_or, and_false, false_and, Classical.not_not, true_implies, List.set_cons_zero, List.set_cons_succ, ne_eq, Int.tmod_eq_emod_of_nonneg h0]
  refine l_power 12 n 1 (x % 2521) (by omega) hn (by decide) (by decide) (Int.emod_nonneg _ (by decide)) (Int.emod_lt_of_pos _ (by decide)) ?_
  rw [Int.one_mul, pw_pm]
  exact ⟨rfl, rfl, rfl⟩
theorem sx_inverse {x : Int} (h0 : 0 ≤ x) (hx : x ≤ 1000000000) : Xp 66 (d + 1) 0 [(0, x)] [] t g Q = Q (some (0, x ^ 2519 % 2521)) t g := by
  simp only [x_66_0, x_66_1, x_66_4, x_66_7, hkP1_0, hkP1_2, hkP1_u, hkC8, List.map_cons, List.map_nil, List.sum_cons, List.sum_nil, hkCat_0, hkCat_1, hkCat_2, Nat.reduceAdd, Nat.reduceLeDiff, hkPush_s, hkPush_n, true_and, and_true, implies_true, true_implies, not_true_eq_false, not_false_eq_true, false_implies, hkTf_0, hkTf_n1, hkOr01, hkOr11, Int.reduceEq, Int.reduceLT, Int.reduceLE, hk102a, hk102b, hk102c, Nat.reduceEqDiff, or_true, true_or, or_false, false_or, and_false, false_and, Classical.not_not, true_implies, List.set_cons_zero, List.set_cons_succ, ne_eq]
  rw [show ((2519 : Int)) = ((2519 : Nat) : Int) from rfl, sx_power h0 hx (by decide)]
  simp only [x_66_7, hkP1_0, hkP1_2, hkP1_u, hkC8, List.map_cons, List.map_nil, List.sum_cons, List.sum_nil, hkCat_0, hkCat_1, hkCat_2, Nat.reduceAdd, Nat.reduceLeDiff, hkPush_s, hkPush_n, true_and, and_true, implies_true, true_implies, not_true_eq_false, not_false_eq_true, false_implies, hkTf_0, hkTf_n1, hkOr01, hkOr11, Int.reduceEq, Int.reduceLT, Int.reduceLE, hk102a, hk102b, hk102c, Nat.reduceEqDiff, or_true, true_or, or_false, false_or, and_false, false_and, Classical.not_not, true_implies, List.set_cons_zero, List.set_cons_succ, ne_eq]
end SP
