/-! ties: feed -/
theorem hkAnd_tf {p q : Prop} : hkAnd (hkTf p) (hkTf q) = hkTf (p ∧ q) := by
  by_cases h1 : p
  · by_cases h2 : q
    · rw [hkTf_t h1, hkTf_t h2, hkTf_t ⟨h1, h2⟩]; decide
    · rw [hkTf_t h1, hkTf_f h2, hkTf_f (fun h => h2 h.2)]; decide
  · by_cases h2 : q
    · rw [hkTf_f h1, hkTf_t h2, hkTf_f (fun h => h1 h.1)]; decide
    · rw [hkTf_f h1, hkTf_f h2, hkTf_f (fun h => h1 h.1)]; decide
def fdB (a b c e f k : Int) : Int := if k = 0 then a else if k = 1 then b else if k = 2 then c else if k = 3 then e else f
def fdK (p q : Int) (z m k : Int) (B : Int → Int) (g g' : hkG) : Prop := (∀ x : Int, x < z → g' p x = g p x) ∧ ∀ x : Int, z ≤ x → x < z + m → g' p x = B (k + (x - z))
section SP
variable {t d : Nat} {R N : Int} {Q : Option hkV → Nat → hkG → Prop}
theorem l_feed (ht : 190 ≤ t) {n a b c e f : Int} (hn : n ≤ 5) : ∀ (m : Nat) (k z : Int) (g : hkG), k + m = n → 0 ≤ k → g 24 0 = z → 0 ≤ z → z + m ≤ 60 → (∀ g' : hkG, (∀ q : Int, q ≠ 24 → q ≠ 27 → g' q = g q) → (∀ i : Int, i ≠ 0 → g' 24 i = g 24 i) → g' 24 0 = z + m → fdK 27 27 z m k (fdB a b c e f) g g' → Q (some (0, z + m)) t g') →
    Xp 18 (d + 1) 70 [(2, 0), (0, n), (0, a), (0, b), (0, c), (0, e), (0, f), (0, k)] [] t g Q := by
  intro m
  induction m with
  | zero =>
    intro k z g hk k0 hz z0 z1 hQ
    have hq := hQ g (fun _ _ _ => rfl) (fun _ _ => rfl) (by omega) ⟨fun _ _ => rfl, fun x x0 x1 => by omega⟩
    rw [show z + ((0 : Nat) : Int) = z from by omega] at hq
    rw [x_18_70]
    simp only [x_18_72, x_18_73, hkJK_0, hkJK_24, jA_0_5, jR_0_5, hkP1_0, hkP1_2, hkP1_u, hkC8, List.map_cons, List.map_nil, List.sum_cons, List.sum_nil, hkCat_0, hkCat_1, hkCat_2, Nat.reduceAdd, Nat.reduceLeDiff, hkPush_s, hkPush_n, true_and, and_true, implies_true, true_implies, not_true_eq_false, not_false_eq_true, false_implies, hkTf_0, hkTf_n1, hkOr01, hkOr11, Int.reduceEq, Int.reduceLT, Int.reduceLE, hk102a, hk102b, hk102c, Nat.reduceEqDiff, or_true, true_or, or_false, false_or, and_false, false_and, Classical.not_not, true_implies, List.set_cons_zero, List.set_cons_succ, ne_eq, x_18_169, x_18_170, x_18_173, x_18_176, hkJK_0, hkJK_24, jA_0_5, jR_0_5, hkP1_0, hkP1_2, hkP1_u, hkC8, List.map_cons, List.map_nil, List.sum_cons, List.sum_nil, hkCat_0, hkCat_1, hkCat_2, Nat.reduceAdd, Nat.reduceLeDiff, hkPush_s, hkPush_n, true_and, and_true, implies_true, true_implies, not_true_eq_false, not_false_eq_true, false_implies, hkTf_0, hkTf_n1, hkOr01, hkOr11, Int.reduceEq, Int.reduceLT, Int.reduceLE, hk102a, hk102b, hk102c, Nat.reduceEqDiff, or_true, true_or, or_false, false_or, and_false, false_and, Classical.not_not, true_implies, List.set_cons_zero, List.set_cons_succ, ne_eq, hkLe_t ht, hz]
    repeat' (first | exact hq | refine And.intro ?_ ?_ | intro _ | trivial | omega | (exfalso; omega))
  | succ m ih =>
    intro k z g hk k0 hz z0 z1 hQ
    have IH := fun v (hv : v = fdB a b c e f k) => ih (k + 1) (z + 1) (hkSet (hkSet g 27 z v) 24 0 (z + 1)) (by omega) (by omega) (by rw [hkSet_rd, if_pos ⟨rfl, rfl⟩]) (by omega) (by omega) (fun g' m1 m2 m3 m4 => by
      have h := hQ g' (fun q q1 q2 => by rw [m1 q q1 q2, hkSet_row q1, hkSet_row q2]) (fun i hi => by rw [m2 i hi, hkSet_rd, if_neg (fun h => hi h.2), hkSet_row (by decide)]) (by rw [m3]; omega) ⟨fun x hx => by rw [m4.1 x (by omega), hkSet_row (by decide), hkSet_rd, if_neg (by omega)], fun x x0 x1 => by
        by_cases hx : x = z
        · rw [m4.1 x (by omega), hkSet_row (by decide), hkSet_rd, if_pos ⟨rfl, hx⟩, hv]; congr 1; omega
        · rw [m4.2 x (by omega) (by omega)]; congr 1; omega⟩
      rw [show z + 1 + (m : Int) = z + ((m + 1 : Nat) : Int) from by omega]
      exact h)
    obtain ⟨hw, e1⟩ : hkW (k + 1) = k + 1 ∧ hkW (z + 1) = z + 1 := ⟨hkW_in (by omega) (by omega), hkW_in (by omega) (by omega)⟩
    have hz2 : ∀ v : Int, hkSet g 27 z v 24 0 = z := fun v => by rw [hkSet_row (by decide)]; exact hz
    have h5 : k = 0 ∨ k = 1 ∨ k = 2 ∨ k = 3 ∨ k = 4 := by clear hw e1; omega
    rw [x_18_70]
    rcases h5 with h | h | h | h | h
    · subst h
      have K := IH a rfl
      simp only [x_18_72, x_18_73, x_18_76, x_18_78_k0, x_18_78_k1, x_18_78_k2, x_18_78_k3, x_18_108, x_18_109, x_18_112, x_18_113, x_18_116, x_18_119, x_18_120, x_18_123, x_18_124, x_18_127, x_18_130, x_18_131, x_18_134, x_18_136, x_18_139, x_18_142, x_18_143, x_18_146, x_18_148, x_18_151, x_18_154, x_18_155, x_18_158, x_18_160, x_18_163, x_18_166, hkJK_0, hkJK_24, jA_0_5, jR_0_5, hkP1_0, hkP1_2, hkP1_u, hkC8, List.map_cons, List.map_nil, List.sum_cons, List.sum_nil, hkCat_0, hkCat_1, hkCat_2, Nat.reduceAdd, Nat.reduceLeDiff, hkPush_s, hkPush_n, true_and, and_true, implies_true, true_implies, not_true_eq_false, not_false_eq_true, false_implies, hkTf_0, hkTf_n1, hkOr01, hkOr11, Int.reduceEq, Int.reduceLT, Int.reduceLE, hk102a, hk102b, hk102c, Nat.reduceEqDiff, or_true, true_or, or_false, false_or, and_false, false_and, Classical.not_not, true_implies, List.set_cons_zero, List.set_cons_succ, ne_eq, x_75_0, x_75_1, x_75_4, x_75_6, x_75_9, x_75_10, x_75_13, x_75_14, x_75_17, x_75_18, x_75_19, x_75_20, x_75_21, x_75_24, x_75_25, x_75_26, x_75_29, hkJK_24, hkJK_27, jA_24_6, jL_27, jR_24_6, hkP1_0, hkP1_2, hkP1_u, hkC8, List.map_cons, List.map_nil, List.sum_cons, List.sum_nil, hkCat_0, hkCat_1, hkCat_2, Nat.reduceAdd, Nat.reduceLeDiff, hkPush_s, hkPush_n, true_and, and_true, implies_true, true_implies, not_true_eq_false, not_false_eq_true, false_implies, hkTf_0, hkTf_n1, hkOr01, hkOr11, Int.reduceEq, Int.reduceLT, Int.reduceLE, hk102a, hk102b, hk102c, Nat.reduceEqDiff, or_true, true_or, or_false, false_or, and_false, false_and, Classical.not_not, true_implies, List.set_cons_zero, List.set_cons_succ, ne_eq, hkLe_t ht, hz, hz2, e1, hw]
      clear e1 hw
      repeat' (first | exact K | refine And.intro ?_ ?_ | intro _ | trivial | omega | (exfalso; omega))
    · subst h
      have K := IH b rfl
      simp only [x_18_72, x_18_73, x_18_76, x_18_78_k0, x_18_78_k1, x_18_78_k2, x_18_78_k3, x_18_108, x_18_109, x_18_112, x_18_113, x_18_116, x_18_119, x_18_120, x_18_123, x_18_124, x_18_127, x_18_130, x_18_131, x_18_134, x_18_136, x_18_139, x_18_142, x_18_143, x_18_146, x_18_148, x_18_151, x_18_154, x_18_155, x_18_158, x_18_160, x_18_163, x_18_166, hkJK_0, hkJK_24, jA_0_5, jR_0_5, hkP1_0, hkP1_2, hkP1_u, hkC8, List.map_cons, List.map_nil, List.sum_cons, List.sum_nil, hkCat_0, hkCat_1, hkCat_2, Nat.reduceAdd, Nat.reduceLeDiff, hkPush_s, hkPush_n, true_and, and_true, implies_true, true_implies, not_true_eq_false, not_false_eq_true, false_implies, hkTf_0, hkTf_n1, hkOr01, hkOr11, Int.reduceEq, Int.reduceLT, Int.reduceLE, hk102a, hk102b, hk102c, Nat.reduceEqDiff, or_true, true_or, or_false, false_or, and_false, false_and, Classical.not_not, true_implies, List.set_cons_zero, List.set_cons_succ, ne_eq, x_75_0, x_75_1, x_75_4, x_75_6, x_75_9, x_75_10, x_75_13, x_75_14, x_75_17, x_75_18, x_75_19, x_75_20, x_75_21, x_75_24, x_75_25, x_75_26, x_75_29, hkJK_24, hkJK_27, jA_24_6, jL_27, jR_24_6, hkP1_0, hkP1_2, hkP1_u, hkC8, List.map_cons, List.map_nil, List.sum_cons, List.sum_nil, hkCat_0, hkCat_1, hkCat_2, Nat.reduceAdd, Nat.reduceLeDiff, hkPush_s, hkPush_n, true_and, and_true, implies_true, true_implies, not_true_eq_false, not_false_eq_true, false_implies, hkTf_0, hkTf_n1, hkOr01, hkOr11, Int.reduceEq, Int.reduceLT, Int.reduceLE, hk102a, hk102b, hk102c, Nat.reduceEqDiff, or_true, true_or, or_false, false_or, and_false, false_and, Classical.not_not, true_implies, List.set_cons_zero, List.set_cons_succ, ne_eq, hkLe_t ht, hz, hz2, e1, hw]
      clear e1 hw
      repeat' (first | exact K | refine And.intro ?_ ?_ | intro _ | trivial | omega | (exfalso; omega))
    · subst h
      have K := IH c rfl
      simp only [x_18_72, x_18_73, x_18_76, x_18_78_k0, x_18_78_k1, x_18_78_k2, x_18_78_k3, x_18_108, x_18_109, x_18_112, x_18_113, x_18_116, x_18_119, x_18_120, x_18_123, x_18_124, x_18_127, x_18_130, x_18_131, x_18_134, x_18_136, x_18_139, x_18_142, x_18_143, x_18_146, x_18_148, x_18_151, x_18_154, x_18_155, x_18_158, x_18_160, x_18_163, x_18_166, hkJK_0, hkJK_24, jA_0_5, jR_0_5, hkP1_0, hkP1_2, hkP1_u, hkC8, List.map_cons, List.map_nil, List.sum_cons, List.sum_nil, hkCat_0, hkCat_1, hkCat_2, Nat.reduceAdd, Nat.reduceLeDiff, hkPush_s, hkPush_n, true_and, and_true, implies_true, true_implies, not_true_eq_false, not_false_eq_true, false_implies, hkTf_0, hkTf_n1, hkOr01, hkOr11, Int.reduceEq, Int.reduceLT, Int.reduceLE, hk102a, hk102b, hk102c, Nat.reduceEqDiff, or_true, true_or, or_false, false_or, and_false, false_and, Classical.not_not, true_implies, List.set_cons_zero, List.set_cons_succ, ne_eq, x_75_0, x_75_1, x_75_4, x_75_6, x_75_9, x_75_10, x_75_13, x_75_14, x_75_17, x_75_18, x_75_19, x_75_20, x_75_21, x_75_24, x_75_25, x_75_26, x_75_29, hkJK_24, hkJK_27, jA_24_6, jL_27, jR_24_6, hkP1_0, hkP1_2, hkP1_u, hkC8, List.map_cons, List.map_nil, List.sum_cons, List.sum_nil, hkCat_0, hkCat_1, hkCat_2, Nat.reduceAdd, Nat.reduceLeDiff, hkPush_s, hkPush_n, true_and, and_true, implies_true, true_implies, not_true_eq_false, not_false_eq_true, false_implies, hkTf_0, hkTf_n1, hkOr01, hkOr11, Int.reduceEq, Int.reduceLT, Int.reduceLE, hk102a, hk102b, hk102c, Nat.reduceEqDiff, or_true, true_or, or_false, false_or, and_false, false_and, Classical.not_not, true_implies, List.set_cons_zero, List.set_cons_succ, ne_eq, hkLe_t ht, hz, hz2, e1, hw]
      clear e1 hw
      repeat' (first | exact K | refine And.intro ?_ ?_ | intro _ | trivial | omega | (exfalso; omega))
    · subst h
      have K := IH e rfl
      simp only [x_18_72, x_18_73, x_18_76, x_18_78_k0, x_18_78_k1, x_18_78_k2, x_18_78_k3, x_18_108, x_18_109, x_18_112, x_18_113, x_18_116, x_18_119, x_18_120, x_18_123, x_18_124, x_18_127, x_18_130, x_18_131, x_18_134, x_18_136, x_18_139, x_18_142, x_18_143, x_18_146, x_18_148, x_18_151, x_18_154, x_18_155, x_18_158, x_18_160, x_18_163, x_18_166, hkJK_0, hkJK_24, jA_0_5, jR_0_5, hkP1_0, hkP1_2, hkP1_u, hkC8, List.map_cons, List.map_nil, List.sum_cons, List.sum_nil, hkCat_0, hkCat_1, hkCat_2, Nat.reduceAdd, Nat.reduceLeDiff, hkPush_s, hkPush_n, true_and, and_true, implies_true, true_implies, not_true_eq_false, not_false_eq_true, false_implies, hkTf_0, hkTf_n1, hkOr01, hkOr11, Int.reduceEq, Int.reduceLT, Int.reduceLE, hk102a, hk102b, hk102c, Nat.reduceEqDiff, or_true, true_or, or_false, false_or, and_false, false_and, Classical.not_not, true_implies, List.set_cons_zero, List.set_cons_succ, ne_eq, x_75_0, x_75_1, x_75_4, x_75_6, x_75_9, x_75_10, x_75_13, x_75_14, x_75_17, x_75_18, x_75_19, x_75_20, x_75_21, x_75_24, x_75_25, x_75_26, x_75_29, hkJK_24, hkJK_27, jA_24_6, jL_27, jR_24_6, hkP1_0, hkP1_2, hkP1_u, hkC8, List.map_cons, List.map_nil, List.sum_cons, List.sum_nil, hkCat_0, hkCat_1, hkCat_2, Nat.reduceAdd, Nat.reduceLeDiff, hkPush_s, hkPush_n, true_and, and_true, implies_true, true_implies, not_true_eq_false, not_false_eq_true, false_implies, hkTf_0, hkTf_n1, hkOr01, hkOr11, Int.reduceEq, Int.reduceLT, Int.reduceLE, hk102a, hk102b, hk102c, Nat.reduceEqDiff, or_true, true_or, or_false, false_or, and_false, false_and, Classical.not_not, true_implies, List.set_cons_zero, List.set_cons_succ, ne_eq, hkLe_t ht, hz, hz2, e1, hw]
      clear e1 hw
      repeat' (first | exact K | refine And.intro ?_ ?_ | intro _ | trivial | omega | (exfalso; omega))
    · subst h
      have K := IH f rfl
      simp only [x_18_72, x_18_73, x_18_76, x_18_78_k0, x_18_78_k1, x_18_78_k2, x_18_78_k3, x_18_108, x_18_109, x_18_112, x_18_113, x_18_116, x_18_119, x_18_120, x_18_123, x_18_124, x_18_127, x_18_130, x_18_131, x_18_134, x_18_136, x_18_139, x_18_142, x_18_143, x_18_146, x_18_148, x_18_151, x_18_154, x_18_155, x_18_158, x_18_160, x_18_163, x_18_166, hkJK_0, hkJK_24, jA_0_5, jR_0_5, hkP1_0, hkP1_2, hkP1_u, hkC8, List.map_cons, List.map_nil, List.sum_cons, List.sum_nil, hkCat_0, hkCat_1, hkCat_2, Nat.reduceAdd, Nat.reduceLeDiff, hkPush_s, hkPush_n, true_and, and_true, implies_true, true_implies, not_true_eq_false, not_false_eq_true, false_implies, hkTf_0, hkTf_n1, hkOr01, hkOr11, Int.reduceEq, Int.reduceLT, Int.reduceLE, hk102a, hk102b, hk102c, Nat.reduceEqDiff, or_true, true_or, or_false, false_or, and_false, false_and, Classical.not_not, true_implies, List.set_cons_zero, List.set_cons_succ, ne_eq, x_18_78_d (a := 4) (by decide), x_75_0, x_75_1, x_75_4, x_75_6, x_75_9, x_75_10, x_75_13, x_75_14, x_75_17, x_75_18, x_75_19, x_75_20, x_75_21, x_75_24, x_75_25, x_75_26, x_75_29, hkJK_24, hkJK_27, jA_24_6, jL_27, jR_24_6, hkP1_0, hkP1_2, hkP1_u, hkC8, List.map_cons, List.map_nil, List.sum_cons, List.sum_nil, hkCat_0, hkCat_1, hkCat_2, Nat.reduceAdd, Nat.reduceLeDiff, hkPush_s, hkPush_n, true_and, and_true, implies_true, true_implies, not_true_eq_false, not_false_eq_true, false_implies, hkTf_0, hkTf_n1, hkOr01, hkOr11, Int.reduceEq, Int.reduceLT, Int.reduceLE, hk102a, hk102b, hk102c, Nat.reduceEqDiff, or_true, true_or, or_false, false_or, and_false, false_and, Classical.not_not, true_implies, List.set_cons_zero, List.set_cons_succ, ne_eq, hkLe_t ht, hz, hz2, e1, hw]
      clear e1 hw
      repeat' (first | exact K | refine And.intro ?_ ?_ | intro _ | trivial | omega | (exfalso; omega))
theorem l_mfeedc (ht : 190 ≤ t) {n a b c e f : Int} {B : Int → Int} : ∀ (m : Nat) (k : Int) (P : Prop) (g : hkG), k + m = 5 → 0 ≤ k → (∀ x : Int, 0 ≤ x → x < 5 → g 86 x = B x) → Xp 148 (d + 1) 84 [(2, 66), (0, n), (0, a), (0, b), (0, c), (0, e), (0, f), (0, hkTf (P ∧ ∀ x : Int, k ≤ x → x < 5 → 0 ≤ B x ∧ B x ≤ 255)), (0, 5)] [] t g Q →
    Xp 148 (d + 1) 52 [(2, 66), (0, n), (0, a), (0, b), (0, c), (0, e), (0, f), (0, hkTf P), (0, k)] [] t g Q := by
  intro m
  induction m with
  | zero =>
    intro k P g hk k0 h86 hQ
    have e : k = 5 := by omega
    subst e
    have e2 : (P ∧ ∀ x : Int, 5 ≤ x → x < 5 → 0 ≤ B x ∧ B x ≤ 255) = P := propext ⟨fun h => h.1, fun h => ⟨h, fun x x0 x1 => by omega⟩⟩
    rw [e2] at hQ
    rw [x_148_52]
    simp only [x_148_54, x_148_55, hkJK_66, hkJK_85, hkJK_86, jA_66_30, jA_66_31, jL_85, jL_86, jR_66_30, jR_66_31, hkP1_0, hkP1_2, hkP1_u, hkC8, List.map_cons, List.map_nil, List.sum_cons, List.sum_nil, hkCat_0, hkCat_1, hkCat_2, Nat.reduceAdd, Nat.reduceLeDiff, hkPush_s, hkPush_n, true_and, and_true, implies_true, true_implies, not_true_eq_false, not_false_eq_true, false_implies, hkTf_0, hkTf_n1, hkOr01, hkOr11, Int.reduceEq, Int.reduceLT, Int.reduceLE, hk102a, hk102b, hk102c, Nat.reduceEqDiff, or_true, true_or, or_false, false_or, and_false, false_and, Classical.not_not, true_implies, List.set_cons_zero, List.set_cons_succ, ne_eq]
    repeat' (first | exact hQ | refine And.intro ?_ ?_ | intro _ | trivial | omega | (exfalso; omega))
  | succ m ih =>
    intro k P g hk k0 h86 hQ
    have e2 : (P ∧ ∀ x : Int, k ≤ x → x < 5 → 0 ≤ B x ∧ B x ≤ 255) = ((P ∧ (0 ≤ B k ∧ B k ≤ 255)) ∧ ∀ x : Int, k + 1 ≤ x → x < 5 → 0 ≤ B x ∧ B x ≤ 255) := propext ⟨fun h => ⟨⟨h.1, h.2 k (by omega) (by omega)⟩, fun x x0 x1 => h.2 x (by omega) x1⟩, fun h => ⟨h.1.1, fun x x0 x1 => by
      by_cases hx : x = k
      · rw [hx]; exact h.1.2
      · exact h.2 x (by omega) x1⟩⟩
    rw [e2] at hQ
    have IH := ih (k + 1) (P ∧ (0 ≤ B k ∧ B k ≤ 255)) g (by omega) (by omega) h86 hQ
    have hk5 := h86 k k0 (by omega)
    have hw : hkW (k + 1) = k + 1 := hkW_in (by omega) (by omega)
    rw [x_148_52]
    simp only [x_148_54, x_148_55, x_148_58, x_148_60, x_148_61, x_148_64, x_148_66, x_148_67, x_148_68, x_148_69, x_148_72, x_148_75, x_148_76, x_148_78, x_148_81, hkJK_66, hkJK_85, hkJK_86, jA_66_30, jA_66_31, jL_85, jL_86, jR_66_30, jR_66_31, hkP1_0, hkP1_2, hkP1_u, hkC8, List.map_cons, List.map_nil, List.sum_cons, List.sum_nil, hkCat_0, hkCat_1, hkCat_2, Nat.reduceAdd, Nat.reduceLeDiff, hkPush_s, hkPush_n, true_and, and_true, implies_true, true_implies, not_true_eq_false, not_false_eq_true, false_implies, hkTf_0, hkTf_n1, hkOr01, hkOr11, Int.reduceEq, Int.reduceLT, Int.reduceLE, hk102a, hk102b, hk102c, Nat.reduceEqDiff, or_true, true_or, or_false, false_or, and_false, false_and, Classical.not_not, true_implies, List.set_cons_zero, List.set_cons_succ, ne_eq, hkLe_t ht, hk5, sx_mIsIn, hkAnd_tf, hw]
    clear hw
    repeat' (first | exact IH | refine And.intro ?_ ?_ | intro _ | trivial | omega | (exfalso; omega))
theorem l_mfeed (ht : 190 ≤ t) {n a b c e f : Int} {B : Int → Int} {v7 : Int} (hn : n ≤ 5) : ∀ (m : Nat) (k z : Int) (g : hkG), k + m = n → 0 ≤ k → g 66 32 = z → 0 ≤ z → z + m ≤ 60 → (∀ x : Int, 0 ≤ x → x < 5 → g 86 x = B x) → (∀ g' : hkG, (∀ q : Int, q ≠ 66 → q ≠ 85 → g' q = g q) → (∀ i : Int, i ≠ 32 → g' 66 i = g 66 i) → g' 66 32 = z + m → fdK 85 85 z m k B g g' → Q (some (0, z + m)) t g') →
    Xp 148 (d + 1) 109 [(2, 66), (0, n), (0, a), (0, b), (0, c), (0, e), (0, f), (0, v7), (0, k)] [] t g Q := by
  intro m
  induction m with
  | zero =>
    intro k z g hk k0 hz z0 z1 h86 hQ
    have hq := hQ g (fun _ _ _ => rfl) (fun _ _ => rfl) (by omega) ⟨fun _ _ => rfl, fun x x0 x1 => by omega⟩
    rw [show z + ((0 : Nat) : Int) = z from by omega] at hq
    rw [x_148_109]
    simp only [x_148_111, x_148_112, hkJK_66, hkJK_85, hkJK_86, jA_66_30, jA_66_31, jL_85, jL_86, jR_66_30, jR_66_31, hkP1_0, hkP1_2, hkP1_u, hkC8, List.map_cons, List.map_nil, List.sum_cons, List.sum_nil, hkCat_0, hkCat_1, hkCat_2, Nat.reduceAdd, Nat.reduceLeDiff, hkPush_s, hkPush_n, true_and, and_true, implies_true, true_implies, not_true_eq_false, not_false_eq_true, false_implies, hkTf_0, hkTf_n1, hkOr01, hkOr11, Int.reduceEq, Int.reduceLT, Int.reduceLE, hk102a, hk102b, hk102c, Nat.reduceEqDiff, or_true, true_or, or_false, false_or, and_false, false_and, Classical.not_not, true_implies, List.set_cons_zero, List.set_cons_succ, ne_eq, x_148_147, x_148_148, x_148_151, hkJK_66, hkJK_85, hkJK_86, jA_66_30, jA_66_31, jL_85, jL_86, jR_66_30, jR_66_31, hkP1_0, hkP1_2, hkP1_u, hkC8, List.map_cons, List.map_nil, List.sum_cons, List.sum_nil, hkCat_0, hkCat_1, hkCat_2, Nat.reduceAdd, Nat.reduceLeDiff, hkPush_s, hkPush_n, true_and, and_true, implies_true, true_implies, not_true_eq_false, not_false_eq_true, false_implies, hkTf_0, hkTf_n1, hkOr01, hkOr11, Int.reduceEq, Int.reduceLT, Int.reduceLE, hk102a, hk102b, hk102c, Nat.reduceEqDiff, or_true, true_or, or_false, false_or, and_false, false_and, Classical.not_not, true_implies, List.set_cons_zero, List.set_cons_succ, ne_eq, hkLe_t ht, hz]
    repeat' (first | exact hq | refine And.intro ?_ ?_ | intro _ | trivial | omega | (exfalso; omega))
  | succ m ih =>
    intro k z g hk k0 hz z0 z1 h86 hQ
    have hk5 := h86 k k0 (by omega)
    have K := ih (k + 1) (z + 1) (hkSet (hkSet g 85 z (B k)) 66 32 (z + 1)) (by omega) (by omega) (by rw [hkSet_rd, if_pos ⟨rfl, rfl⟩]) (by omega) (by omega) (fun x x0 x1 => by rw [hkSet_row (by decide), hkSet_row (by decide)]; exact h86 x x0 x1) (fun g' m1 m2 m3 m4 => by
      have h := hQ g' (fun q q1 q2 => by rw [m1 q q1 q2, hkSet_row q1, hkSet_row q2]) (fun i hi => by rw [m2 i hi, hkSet_rd, if_neg (fun h => hi h.2), hkSet_row (by decide)]) (by rw [m3]; omega) ⟨fun x hx => by rw [m4.1 x (by omega), hkSet_row (by decide), hkSet_rd, if_neg (by omega)], fun x x0 x1 => by
        by_cases hx : x = z
        · rw [m4.1 x (by omega), hkSet_row (by decide), hkSet_rd, if_pos ⟨rfl, hx⟩]; congr 1; omega
        · rw [m4.2 x (by omega) (by omega)]; congr 1; omega⟩
      rw [show z + 1 + (m : Int) = z + ((m + 1 : Nat) : Int) from by omega]
      exact h)
    obtain ⟨hw, e1⟩ : hkW (k + 1) = k + 1 ∧ hkW (z + 1) = z + 1 := ⟨hkW_in (by omega) (by omega), hkW_in (by omega) (by omega)⟩
    have hz2 : ∀ v : Int, hkSet g 85 z v 66 32 = z := fun v => by rw [hkSet_row (by decide)]; exact hz
    rw [x_148_109]
    simp only [x_148_111, x_148_112, x_148_115, x_148_116, x_148_119, x_148_120, x_148_123, x_148_124, x_148_127, x_148_129, x_148_130, x_148_131, x_148_132, x_148_133, x_148_136, x_148_137, x_148_138, x_148_141, x_148_144, hkJK_66, hkJK_85, hkJK_86, jA_66_30, jA_66_31, jL_85, jL_86, jR_66_30, jR_66_31, hkP1_0, hkP1_2, hkP1_u, hkC8, List.map_cons, List.map_nil, List.sum_cons, List.sum_nil, hkCat_0, hkCat_1, hkCat_2, Nat.reduceAdd, Nat.reduceLeDiff, hkPush_s, hkPush_n, true_and, and_true, implies_true, true_implies, not_true_eq_false, not_false_eq_true, false_implies, hkTf_0, hkTf_n1, hkOr01, hkOr11, Int.reduceEq, Int.reduceLT, Int.reduceLE, hk102a, hk102b, hk102c, Nat.reduceEqDiff, or_true, true_or, or_false, false_or, and_false, false_and, Classical.not_not, true_implies, List.set_cons_zero, List.set_cons_succ, ne_eq, hkLe_t ht, hz, hz2, hk5, e1, hw]
    clear e1 hw
    repeat' (first | exact K | refine And.intro ?_ ?_ | intro _ | trivial | omega | (exfalso; omega))
theorem tie_feed {g : hkG} {xs : Int → Int} {L n a b c e f : Int} (ht : 190 ≤ t) (hR : Rel xs L g) : Tie xs L 18 (d + 12) [(2, 0), (0, n), (0, a), (0, b), (0, c), (0, e), (0, f), hkU] 148 [(2, 66), (0, n), (0, a), (0, b), (0, c), (0, e), (0, f), hkU, hkU] t g := by
  obtain ⟨R, N, hb, hr⟩ := id hR
  obtain ⟨t1, t2, t3, t4, t5⟩ := hr.2.2.1
  generalize hB : fdB a b c e f = B
  have hB5 : ∀ P : Int → Prop, (P a ∧ P b ∧ P c ∧ P e ∧ P f) ↔ ∀ x : Int, 0 ≤ x → x < 5 → P (B x) := fun P => by
    subst hB
    constructor
    · intro ⟨p1, p2, p3, p4, p5⟩ x x0 x1
      unfold fdB
      by_cases h0 : x = 0
      · rw [if_pos h0]; exact p1
      · rw [if_neg h0]
        by_cases h1 : x = 1
        · rw [if_pos h1]; exact p2
        · rw [if_neg h1]
          by_cases h2 : x = 2
          · rw [if_pos h2]; exact p3
          · rw [if_neg h2]
            by_cases h3 : x = 3
            · rw [if_pos h3]; exact p4
            · rw [if_neg h3]; exact p5
    · intro h
      exact ⟨h 0 (by decide) (by decide), h 1 (by decide) (by decide), h 2 (by decide) (by decide), h 3 (by decide) (by decide), h 4 (by decide) (by decide)⟩
  have hby := hB5 (fun v => 0 ≤ v ∧ v ≤ 255)
  -- the reference's head
  have M0 : ∀ (g1 : hkG) (Q : Option hkV → Nat → hkG → Prop), (∀ g2 : hkG, (∀ q : Int, q ≠ 86 → g2 q = g1 q) → (∀ x : Int, 0 ≤ x → x < 5 → g2 86 x = B x) → Xp 148 (d + 11 + 1) 84 [(2, 66), (0, n), (0, a), (0, b), (0, c), (0, e), (0, f), (0, hkTf ((1 ≤ n ∧ n ≤ 5) ∧ ∀ x : Int, 0 ≤ x → x < 5 → 0 ≤ B x ∧ B x ≤ 255)), (0, 5)] [] t g2 Q) → Xp 148 (d + 12) 0 [(2, 66), (0, n), (0, a), (0, b), (0, c), (0, e), (0, f), hkU, hkU] [] t g1 Q := by
    intro g1 Q hq
    have h5 : ∀ x : Int, 0 ≤ x → x < 5 → hkSet (hkSet (hkSet (hkSet (hkSet g1 86 0 a) 86 1 b) 86 2 c) 86 3 e) 86 4 f 86 x = B x := fun x x0 x1 => by
      subst hB
      unfold fdB
      simp only [hkSet_rd, true_and]
      have h : x = 0 ∨ x = 1 ∨ x = 2 ∨ x = 3 ∨ x = 4 := by omega
      rcases h with h | h | h | h | h <;> subst h <;> rfl
    have K := l_mfeedc (d := d + 11) (t := t) (n := n) (a := a) (b := b) (c := c) (e := e) (f := f) (B := B) (Q := Q) ht 5 0 (1 ≤ n ∧ n ≤ 5) _ (by decide) (by decide) h5 (hq _ (fun q q1 => by rw [hkSet_row q1, hkSet_row q1, hkSet_row q1, hkSet_row q1, hkSet_row q1]) h5)
    simp only [x_148_0, x_148_1, x_148_4, x_148_5, x_148_6, x_148_7, x_148_8, x_148_11, x_148_12, x_148_13, x_148_14, x_148_15, x_148_18, x_148_19, x_148_21, x_148_22, x_148_23, x_148_26, x_148_27, x_148_29, x_148_30, x_148_31, x_148_34, x_148_35, x_148_37, x_148_38, x_148_39, x_148_40, x_148_41, x_148_44, x_148_47, x_148_49, x_148_50, hkJK_66, hkJK_85, hkJK_86, jA_66_30, jA_66_31, jL_85, jL_86, jR_66_30, jR_66_31, hkP1_0, hkP1_2, hkP1_u, hkC8, List.map_cons, List.map_nil, List.sum_cons, List.sum_nil, hkCat_0, hkCat_1, hkCat_2, Nat.reduceAdd, Nat.reduceLeDiff, hkPush_s, hkPush_n, true_and, and_true, implies_true, true_implies, not_true_eq_false, not_false_eq_true, false_implies, hkTf_0, hkTf_n1, hkOr01, hkOr11, Int.reduceEq, Int.reduceLT, Int.reduceLE, hk102a, hk102b, hk102c, Nat.reduceEqDiff, or_true, true_or, or_false, false_or, and_false, false_and, Classical.not_not, true_implies, List.set_cons_zero, List.set_cons_succ, ne_eq, hkLe_t ht, sx_mIsIn]
    repeat' (first | exact K | refine And.intro ?_ ?_ | intro _ | trivial | omega | (exfalso; omega))
  by_cases hv : (1 ≤ n ∧ n ≤ 5) ∧ ∀ x : Int, 0 ≤ x → x < 5 → 0 ≤ B x ∧ B x ≤ 255
  · obtain ⟨⟨n0, n1⟩, hv2⟩ := id hv
    obtain ⟨q1, q2, q3, q4, q5⟩ := hby.2 hv2
    have C : ∀ Q : Option hkV → Nat → hkG → Prop, Xp 18 (d + 12) 50 [(2, 0), (0, n), (0, a), (0, b), (0, c), (0, e), (0, f), hkU] [] t g Q → Xp 18 (d + 12) 0 [(2, 0), (0, n), (0, a), (0, b), (0, c), (0, e), (0, f), hkU] [] t g Q := by
      intro Q hq
      simp only [x_18_0, x_18_1, x_18_2, x_18_3, x_18_6, x_18_9, x_18_10, x_18_13, x_18_16, x_18_17, x_18_20, x_18_23, x_18_25, x_18_28, x_18_31, x_18_33, x_18_36, x_18_39, x_18_41, x_18_44, hkJK_0, hkJK_24, jA_0_5, jR_0_5, hkP1_0, hkP1_2, hkP1_u, hkC8, List.map_cons, List.map_nil, List.sum_cons, List.sum_nil, hkCat_0, hkCat_1, hkCat_2, Nat.reduceAdd, Nat.reduceLeDiff, hkPush_s, hkPush_n, true_and, and_true, implies_true, true_implies, not_true_eq_false, not_false_eq_true, false_implies, hkTf_0, hkTf_n1, hkOr01, hkOr11, Int.reduceEq, Int.reduceLT, Int.reduceLE, hk102a, hk102b, hk102c, Nat.reduceEqDiff, or_true, true_or, or_false, false_or, and_false, false_and, Classical.not_not, true_implies, List.set_cons_zero, List.set_cons_succ, ne_eq, sx_isOff, sx_isNoByte]
      repeat' (first | exact hq | refine And.intro ?_ ?_ | intro _ | trivial | omega | (exfalso; omega))
    have hw : hkW (60 - g 66 32) = 60 - g 66 32 := hkW_in (by omega) (by omega)
    have MF0 : ∀ (g1 : hkG) (Q : Option hkV → Nat → hkG → Prop), g1 66 32 = g 66 32 → (60 < g 66 32 + n → ∀ g2 : hkG, (∀ q : Int, q ≠ 86 → g2 q = g1 q) → Q (some (0, -4)) t g2) → (¬ 60 < g 66 32 + n → ∀ g2 : hkG, (∀ q : Int, q ≠ 86 → g2 q = g1 q) → (∀ x : Int, 0 ≤ x → x < 5 → g2 86 x = B x) → Xp 148 (d + 11 + 1) 109 [(2, 66), (0, n), (0, a), (0, b), (0, c), (0, e), (0, f), (0, 1), (0, 0)] [] t g2 Q) → Xp 148 (d + 12) 0 [(2, 66), (0, n), (0, a), (0, b), (0, c), (0, e), (0, f), hkU, hkU] [] t g1 Q := by
      intro g1 Q h32 u1 u2
      refine M0 g1 Q (fun g2 k2 e2 => ?_)
      have h32' : g2 66 32 = g 66 32 := by rw [k2 66 (by decide)]; exact h32
      have hw2 : hkW (g 66 32 + n) = g 66 32 + n := hkW_in (by omega) (by omega)
      rw [hkTf_t hv]
      by_cases hf : 60 < g 66 32 + n
      · have hq := u1 hf g2 k2
        simp only [x_148_84, x_148_86, x_148_89, x_148_91, x_148_92, x_148_93, x_148_96, x_148_97, x_148_98, x_148_100, x_148_103, x_148_105, x_148_106, x_148_107, hkJK_66, hkJK_85, hkJK_86, jA_66_30, jA_66_31, jL_85, jL_86, jR_66_30, jR_66_31, hkP1_0, hkP1_2, hkP1_u, hkC8, List.map_cons, List.map_nil, List.sum_cons, List.sum_nil, hkCat_0, hkCat_1, hkCat_2, Nat.reduceAdd, Nat.reduceLeDiff, hkPush_s, hkPush_n, true_and, and_true, implies_true, true_implies, not_true_eq_false, not_false_eq_true, false_implies, hkTf_0, hkTf_n1, hkOr01, hkOr11, Int.reduceEq, Int.reduceLT, Int.reduceLE, hk102a, hk102b, hk102c, Nat.reduceEqDiff, or_true, true_or, or_false, false_or, and_false, false_and, Classical.not_not, true_implies, List.set_cons_zero, List.set_cons_succ, ne_eq, h32', hw2]
        clear hw2
        repeat' (first | exact hq | refine And.intro ?_ ?_ | intro _ | trivial | omega | (exfalso; omega))
      · have hq := u2 hf g2 k2 e2
        simp only [x_148_84, x_148_86, x_148_89, x_148_91, x_148_92, x_148_93, x_148_96, x_148_97, x_148_98, x_148_100, x_148_103, x_148_105, x_148_106, x_148_107, hkJK_66, hkJK_85, hkJK_86, jA_66_30, jA_66_31, jL_85, jL_86, jR_66_30, jR_66_31, hkP1_0, hkP1_2, hkP1_u, hkC8, List.map_cons, List.map_nil, List.sum_cons, List.sum_nil, hkCat_0, hkCat_1, hkCat_2, Nat.reduceAdd, Nat.reduceLeDiff, hkPush_s, hkPush_n, true_and, and_true, implies_true, true_implies, not_true_eq_false, not_false_eq_true, false_implies, hkTf_0, hkTf_n1, hkOr01, hkOr11, Int.reduceEq, Int.reduceLT, Int.reduceLE, hk102a, hk102b, hk102c, Nat.reduceEqDiff, or_true, true_or, or_false, false_or, and_false, false_and, Classical.not_not, true_implies, List.set_cons_zero, List.set_cons_succ, ne_eq, h32', hw2]
        clear hw2
        repeat' (first | exact hq | refine And.intro ?_ ?_ | intro _ | trivial | omega | (exfalso; omega))
    by_cases hf : 60 < g 66 32 + n
    · refine C _ ?_
      have G : ∀ Q : Option hkV → Nat → hkG → Prop, Q (some (0, -4)) t g → Xp 18 (d + 12) 50 [(2, 0), (0, n), (0, a), (0, b), (0, c), (0, e), (0, f), hkU] [] t g Q := by
        intro Q hq
        simp only [x_18_50, x_18_51, x_18_53, x_18_54, x_18_57, x_18_60, x_18_61, x_18_64, x_18_66, hkJK_0, hkJK_24, jA_0_5, jR_0_5, hkP1_0, hkP1_2, hkP1_u, hkC8, List.map_cons, List.map_nil, List.sum_cons, List.sum_nil, hkCat_0, hkCat_1, hkCat_2, Nat.reduceAdd, Nat.reduceLeDiff, hkPush_s, hkPush_n, true_and, and_true, implies_true, true_implies, not_true_eq_false, not_false_eq_true, false_implies, hkTf_0, hkTf_n1, hkOr01, hkOr11, Int.reduceEq, Int.reduceLT, Int.reduceLE, hk102a, hk102b, hk102c, Nat.reduceEqDiff, or_true, true_or, or_false, false_or, and_false, false_and, Classical.not_not, true_implies, List.set_cons_zero, List.set_cons_succ, ne_eq, hkLe_t ht, hw, t1]
        clear hw
        repeat' (first | exact hq | refine And.intro ?_ ?_ | intro _ | trivial | omega | (exfalso; omega))
      refine G _ ⟨_, rfl, rfl, MF0 g _ rfl (fun _ g2 k2 => ⟨rfl, rfl, Rel_q (RB_c hb (fun q hq => k2 q (by omega))) ⟨fun q hq => k2 q (by unfold scr at hq; omega), fun k _ => by rw [k2 66 (by decide)], by rw [k2 24 (by decide)], by rw [k2 24 (by decide)]⟩ hr⟩) (fun h => absurd hf h)⟩
    · refine C _ ?_
      have K := l_feed (d := d + 11) (t := t) (n := n) (a := a) (b := b) (c := c) (e := e) (f := f) (Q := fun r t1 g1 => ∃ v, r = some v ∧ t1 = t ∧ Xp 148 (d + 12) 0 [(2, 66), (0, n), (0, a), (0, b), (0, c), (0, e), (0, f), hkU, hkU] [] t g1 (fun r2 t2 g2 => r2 = some v ∧ t2 = t ∧ Rel xs L g2)) ht n1 n.toNat 0 (g 66 32) g (by omega) (by decide) t1 t2 (by omega) (fun g1 m1 m2 m3 m4 => ⟨_, rfl, rfl, ?_⟩)
      · simp only [x_18_50, x_18_51, x_18_53, x_18_54, x_18_57, x_18_60, x_18_61, x_18_64, x_18_66, x_18_67, x_18_68, hkJK_0, hkJK_24, jA_0_5, jR_0_5, hkP1_0, hkP1_2, hkP1_u, hkC8, List.map_cons, List.map_nil, List.sum_cons, List.sum_nil, hkCat_0, hkCat_1, hkCat_2, Nat.reduceAdd, Nat.reduceLeDiff, hkPush_s, hkPush_n, true_and, and_true, implies_true, true_implies, not_true_eq_false, not_false_eq_true, false_implies, hkTf_0, hkTf_n1, hkOr01, hkOr11, Int.reduceEq, Int.reduceLT, Int.reduceLE, hk102a, hk102b, hk102c, Nat.reduceEqDiff, or_true, true_or, or_false, false_or, and_false, false_and, Classical.not_not, true_implies, List.set_cons_zero, List.set_cons_succ, ne_eq, hkLe_t ht, hw, t1]
        clear hw
        repeat' (first | exact K | refine And.intro ?_ ?_ | intro _ | trivial | omega | (exfalso; omega))
      · clear hw
        rw [hB] at m4
        have h32 : g1 66 32 = g 66 32 := by rw [m1 66 (by decide) (by decide)]
        refine MF0 g1 _ h32 (fun h => absurd h hf) (fun _ g2 k2 e2 => ?_)
        refine l_mfeed (d := d + 11) (t := t) (n := n) (a := a) (b := b) (c := c) (e := e) (f := f) (B := B) ht n1 n.toNat 0 (g 66 32) g2 (by omega) (by decide) (by rw [k2 66 (by decide)]; exact h32) t2 (by omega) e2 (fun g3 p1 p2 p3 p4 => ⟨rfl, rfl, ?_⟩)
        have hN : ((n.toNat : Nat) : Int) = n := by omega
        rw [hN] at m3 m4 p3 p4
        have kq : ∀ q : Int, q ≠ 24 → q ≠ 27 → q ≠ 66 → q ≠ 85 → q ≠ 86 → g3 q = g q := fun q h1 h2 h3 h4 h5 => by rw [p1 q h3 h4, k2 q h5, m1 q h1 h2]
        have k66 : ∀ k : Int, k ≠ 32 → g3 66 k = g 66 k := fun k hk => by rw [p2 k hk, k2 66 (by decide), m1 66 (by decide) (by decide)]
        have k24 : ∀ k : Int, k ≠ 0 → g3 24 k = g 24 k := fun k hk => by rw [p1 24 (by decide) (by decide), k2 24 (by decide), m2 k hk]
        have k240 : g3 24 0 = g 66 32 + n := by rw [p1 24 (by decide) (by decide), k2 24 (by decide)]; exact m3
        have k27 : g3 27 = g1 27 := by rw [p1 27 (by decide) (by decide), k2 27 (by decide)]
        have k85 : g2 85 = g 85 := by rw [k2 85 (by decide), m1 85 (by decide) (by decide)]
        have hb1 : RB g1 R N := RB_c hb (fun q hq => m1 q (by omega) (by omega))
        have hb2 : RB g2 R N := RB_c hb1 (fun q hq => k2 q (by omega))
        have hb3 : RB g3 R N := RB_s hb2 (fun q q1 q2 => p1 q q2 (by omega)) (fun k _ _ => p2 k (by omega))
        refine ⟨R, N, hb3, ?_, ?_, ⟨?_, ?_, ?_, ?_, ?_⟩, ?_, ?_⟩
        · exact RS_row hr.1 (kq 52 (by decide) (by decide) (by decide) (by decide) (by decide)) (kq 72 (by decide) (by decide) (by decide) (by decide) (by decide)) (k66 2 (by decide))
        · exact RK_row hr.2.1 (kq 0 (by decide) (by decide) (by decide) (by decide) (by decide)) (kq 56 (by decide) (by decide) (by decide) (by decide) (by decide)) (kq 73 (by decide) (by decide) (by decide) (by decide) (by decide)) (fun k h1 h2 => k66 k (by omega))
        · rw [k240, p3]
        · rw [p3]; omega
        · rw [p3]; omega
        · intro k k0 k1
          rw [p3] at k1
          by_cases hk : k < g 66 32
          · rw [k27, m4.1 k hk, p4.1 k hk, k85]
            exact t4 k k0 hk
          · rw [k27, m4.2 k (by omega) (by omega), p4.2 k (by omega) (by omega)]
            exact ⟨rfl, hv2 _ (by omega) (by omega)⟩
        · rw [k24 1 (by decide), k66 12 (by decide)]; exact t5
        · exact RH_row hr.2.2.2.1 (fun q hq => kq q (by omega) (by omega) (by omega) (by omega) (by omega))
        · exact RL_row hr.2.2.2.2 (kq (-1) (by decide) (by decide) (by decide) (by decide) (by decide)) (kq (-2) (by decide) (by decide) (by decide) (by decide) (by decide))
  · have hv3 : ¬ ((1 ≤ n ∧ n ≤ 5) ∧ (0 ≤ a ∧ a ≤ 255) ∧ (0 ≤ b ∧ b ≤ 255) ∧ (0 ≤ c ∧ c ≤ 255) ∧ (0 ≤ e ∧ e ≤ 255) ∧ (0 ≤ f ∧ f ≤ 255)) := fun h => hv ⟨h.1, hby.1 h.2⟩
    have C : ∀ Q : Option hkV → Nat → hkG → Prop, Q (some (0, -2)) t g → Xp 18 (d + 12) 0 [(2, 0), (0, n), (0, a), (0, b), (0, c), (0, e), (0, f), hkU] [] t g Q := by
      intro Q hq
      simp only [x_18_0, x_18_1, x_18_2, x_18_3, x_18_6, x_18_9, x_18_10, x_18_13, x_18_16, x_18_17, x_18_20, x_18_23, x_18_25, x_18_28, x_18_31, x_18_33, x_18_36, x_18_39, x_18_41, x_18_44, x_18_47, x_18_49, hkJK_0, hkJK_24, jA_0_5, jR_0_5, hkP1_0, hkP1_2, hkP1_u, hkC8, List.map_cons, List.map_nil, List.sum_cons, List.sum_nil, hkCat_0, hkCat_1, hkCat_2, Nat.reduceAdd, Nat.reduceLeDiff, hkPush_s, hkPush_n, true_and, and_true, implies_true, true_implies, not_true_eq_false, not_false_eq_true, false_implies, hkTf_0, hkTf_n1, hkOr01, hkOr11, Int.reduceEq, Int.reduceLT, Int.reduceLE, hk102a, hk102b, hk102c, Nat.reduceEqDiff, or_true, true_or, or_false, false_or, and_false, false_and, Classical.not_not, true_implies, List.set_cons_zero, List.set_cons_succ, ne_eq, sx_isOff, sx_isNoByte]
      repeat' (first | exact hq | refine And.intro ?_ ?_ | intro _ | trivial | omega | (exfalso; omega))
    refine C _ ⟨_, rfl, rfl, M0 g _ (fun g2 k2 e2 => ?_)⟩
    have M1 : ∀ Q : Option hkV → Nat → hkG → Prop, Q (some (0, -2)) t g2 → Xp 148 (d + 11 + 1) 84 [(2, 66), (0, n), (0, a), (0, b), (0, c), (0, e), (0, f), (0, hkTf ((1 ≤ n ∧ n ≤ 5) ∧ ∀ x : Int, 0 ≤ x → x < 5 → 0 ≤ B x ∧ B x ≤ 255)), (0, 5)] [] t g2 Q := by
      intro Q hq
      rw [hkTf_f hv]
      simp only [x_148_84, x_148_86, x_148_89, x_148_91, hkJK_66, hkJK_85, hkJK_86, jA_66_30, jA_66_31, jL_85, jL_86, jR_66_30, jR_66_31, hkP1_0, hkP1_2, hkP1_u, hkC8, List.map_cons, List.map_nil, List.sum_cons, List.sum_nil, hkCat_0, hkCat_1, hkCat_2, Nat.reduceAdd, Nat.reduceLeDiff, hkPush_s, hkPush_n, true_and, and_true, implies_true, true_implies, not_true_eq_false, not_false_eq_true, false_implies, hkTf_0, hkTf_n1, hkOr01, hkOr11, Int.reduceEq, Int.reduceLT, Int.reduceLE, hk102a, hk102b, hk102c, Nat.reduceEqDiff, or_true, true_or, or_false, false_or, and_false, false_and, Classical.not_not, true_implies, List.set_cons_zero, List.set_cons_succ, ne_eq]
      repeat' (first | exact hq | refine And.intro ?_ ?_ | intro _ | trivial | omega | (exfalso; omega))
    exact M1 _ ⟨rfl, rfl, Rel_q (RB_c hb (fun q hq => k2 q (by omega))) ⟨fun q hq => k2 q (by unfold scr at hq; omega), fun k _ => by rw [k2 66 (by decide)], by rw [k2 24 (by decide)], by rw [k2 24 (by decide)]⟩ hr⟩
end SP
